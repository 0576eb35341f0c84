/** Edges of promises 1 to 5: a new object, the tape and its reading. */
public final class TapeEdgesTest {
    /** With coins, work, rust, worms and tests on the way. */
    private static final String LIST = "beast b grim 4 fine 1;beast d grim 9 fine 9;carver c skill 9 pace 1 likes d;carver e skill 1 pace 2;"
            + "stall s oak 1;stall t oak 9;bishop p grim 4 from 0;bishop q grim 5 from 3;carve b on s by c when worms s<40;"
            + "carve d on t by e;carve d on t by c when coins>9;oil s when squeaks s or rust t>9 and day>3;";

    public static void main(String[] args) {
        Check.sentence("Promise 1", "Creates a choir without stalls, on the day 0.", TapeEdgesTest::newObject);
        Check.sentence("Promise 1", "Creates a choir without stalls, on the day 0.", TapeEdgesTest::nothingIsThere);
        Check.sentence("Promise 1", "Creates a choir without stalls, on the day 0.", TapeEdgesTest::objectsOfTheirOwn);
        Check.sentence("What it is", "An object is used for at most 512 calls after it has been made", TapeEdgesTest::theLastCall);
        Check.sentence("Language", "The tape is a row of at most 2000 bytes, at first empty", TapeEdgesTest::wholeTape);
        Check.sentence("Promise 2", "Appends twenty bytes to the tape: the four bytes of each number, the highest one first.",
                TapeEdgesTest::bytesOfNumbers);
        Check.sentence("Promise 2", "Returns the number of bytes of the tape.", TapeEdgesTest::bytesOfTheTape);
        Check.sentence("Promise 2", "Throws IllegalStateException if there would be more than 2000", TapeEdgesTest::fullTape);
        Check.sentence("Promise 3", "Shortens the tape to its first bytes.", TapeEdgesTest::firstBytes);
        Check.sentence("Promise 3", "Throws IllegalArgumentException if n is not 0 to the number of bytes of the tape",
                TapeEdgesTest::trimOutside);
        Check.sentence("Language", "teach reads it as a list, and it is empty behind it", TapeEdgesTest::emptyBehindTeach);
        Check.sentence("Promise 4", "Reads the tape as a list, in the place of all that was told before", TapeEdgesTest::emptyTape);
        Check.sentence("Promise 4", "in the place of all that was told before; there are no coins then, and what was carved in all"
                + " begins with 0; the day and the damp stay", TapeEdgesTest::anotherList);
        Check.sentence("Promise 4", "in the place of all that was told before", TapeEdgesTest::lessThanBefore);
        Check.sentence("Promise 4", "in the place of all that was told before", TapeEdgesTest::manyListsInARow);
        Check.sentence("Promise 4", "in the place of all that was told before", TapeEdgesTest::oneSortAlone);
        Check.sentence("Promise 4", "If it has an error, all stays (but the tape is empty).", TapeEdgesTest::allStays);
        Check.sentence("Promise 4", "Returns 0, or the error, 1 to 5.", TapeEdgesTest::eachError);
        Check.sentence("Promise 5", "-1 if it had none, or there was none", TapeEdgesTest::noError);
        Check.sentence("Promise 5", "Returns the position of the error of the latest teach()", TapeEdgesTest::latestError);
        Check.sentence("Terms", "Positions of the tape are counted from 0, in bytes.", TapeEdgesTest::positions);
        Check.finish("TapeEdgesTest");
    }

    private static void newObject() {
        ChoirStalls x = new ChoirStalls();
        Check.rows("count", new int[] {0, 3, 0, 0, 0, 0, 0, 0, 0, 0, 0, 0, 0, 0}, x::count);
        Check.same("errorAt", x.errorAt(), -1);
        Check.same("bishop", x.bishop(), -1);
        Check.same("mean", x.mean(), 0.0);
        Check.same("advise", x.advise(1), 9);
        Check.same("advise", x.advise(90), 9);
        Check.same("spare", x.spare(1), -1);
        Check.same("spare", x.spare(90), -1);
        for (int what = 0; what < 5; what++) {
            int asked = what;
            Check.same("foresee " + what, x.foresee(1, asked) + x.foresee(120, asked), 0);
        }
        Check.same("trim", x.trim(0), 0);
        Check.same("pass", x.pass(1), 0);
        Check.same("day", x.count(0), 1);
        Check.same("setDamp", x.setDamp(3), 3);
        Check.same("teach", x.teach(), 0);
        Check.rows("count", new int[] {1, 3, 0, 0, 0, 0, 0, 0, 0, 0, 0, 0, 0, 0}, x::count);
    }

    private static void nothingIsThere() {
        ChoirStalls x = new ChoirStalls();
        Class<IndexOutOfBoundsException> none = IndexOutOfBoundsException.class;
        Check.refuses(x, "beast 0", none, () -> x.beast(0, 0));
        Check.refuses(x, "carver 0", none, () -> x.carver(0, 0));
        Check.refuses(x, "stall 0", none, () -> x.stall(0, 0));
        Check.refuses(x, "order 0", none, () -> x.order(0, 0));
        Check.refuses(x, "pleasure 0", none, () -> x.pleasure(0));
        Check.refuses(x, "worst 0", none, () -> x.worst(0));
        Check.refuses(x, "oil 0", none, () -> x.oil(0));
        Check.refuses(x, "smoke 0", none, () -> x.smoke(0));
        Check.refuses(x, "strip 0", none, () -> x.strip(0));
        Check.refuses(x, "until 0", none, () -> x.until(0, 0));
        Check.refuses(x, "trim 1", IllegalArgumentException.class, () -> x.trim(1));
    }

    private static void objectsOfTheirOwn() {
        ChoirStalls x = Check.taught(LIST);
        ChoirStalls y = new ChoirStalls();
        x.pass(9);
        x.setDamp(7);
        x.feed(1, 2, 3, 4, 5);
        Check.same("teach with an error", Check.teach(x, "?"), 1);
        Check.same("the other's digest", y.digest(), new ChoirStalls().digest());
        Check.same("the other's error", y.errorAt(), -1);
    }

    private static void theLastCall() {
        ChoirStalls x = new ChoirStalls();
        for (int call = 1; call < 512; call++) {
            x.pass(120);
        }
        Check.same("the day, by the 512th call", x.count(0), 511 * 120);
        // 8 calls of feed, 1 of trim, 1 of teach for a list that is carved anew each day.
        String list = "beast b grim 1 fine 1;beast d grim 1 fine 1;carver c skill 9 pace 1 likes b;stall s oak 1;bishop p grim 1 from 0;"
                + "carve b on s by c;carve d on s by c;";
        Check.same("calls of a list", (list.length() + 19) / 20 + 2, 10);
        ChoirStalls y = Check.taught(list);
        int carved = 0;
        for (int call = 11; call < 512; call++) {
            carved += y.pass(120);
        }
        Check.same("carved in 501 calls", carved, 501 * 120);
        Check.same("carved in all, by the 512th call", y.count(11), 501 * 120);
        ChoirStalls z = new ChoirStalls();
        for (int call = 1; call <= 510; call += 2) {
            z.feed(0x6f696c20, 0x613b2020, 0x20202020, 0x20202020, 0x20202020);
            Check.same("teach by call " + (call + 1), z.teach(), 3);
        }
        Check.same("errorAt by call 511", z.errorAt(), 4);
        Check.same("feed by call 512", z.feed(0, 0, 0, 0, 0), 20);
    }

    private static void wholeTape() {
        ChoirStalls x = new ChoirStalls();
        Check.same("bytes at first", x.count(13), 0);
        Check.same("trim of nothing", x.trim(0), 0);
        Check.same("teach of nothing", x.teach(), 0);
        String list = "stall s oak 1;" + " ".repeat(1972) + "stall t oak 9;";
        Check.same("its bytes", list.length(), 2000);
        Check.write(x, list);
        Check.same("bytes", x.count(13), 2000);
        Check.same("teach of all", x.teach(), 0);
        Check.same("the last line is told", x.stall(1, 0), 9);
        Check.same("bytes behind it", x.count(13), 0);
        Check.same("the last byte counts", Check.teach(x, list.substring(0, 1999) + "?"), 1);
        Check.same("its place", x.errorAt(), 1999);
    }

    /** Twenty bytes, one of them with an error just there. */
    private static void bytesOfNumbers() {
        for (int place = 0; place < 20; place++) {
            for (int wrong : new int[] {0, 1, 63, 127, 128, 200, 255}) {
                int[] numbers = new int[5];
                for (int i = 0; i < 20; i++) {
                    numbers[i / 4] = numbers[i / 4] << 8 | (i == place ? wrong : i % 2 == 0 ? 32 : 10);
                }
                ChoirStalls x = new ChoirStalls();
                Check.same("feed", x.feed(numbers[0], numbers[1], numbers[2], numbers[3], numbers[4]), 20);
                Check.same("byte " + wrong + " at " + place, x.teach(), 1);
                Check.same("byte " + wrong + " is told at " + place, x.errorAt(), place);
            }
        }
        ChoirStalls y = new ChoirStalls();
        // s t a l - l _ s _ - o a k _ - 0 0 7 ; - _ _ _ _
        Check.same("feed", y.feed(0x7374616c, 0x6c207320, 0x6f616b20, 0x3030373b, 0x20202020), 20);
        Check.same("teach", y.teach(), 0);
        Check.same("its oak", y.stall(0, 0), 7);
        ChoirStalls z = new ChoirStalls();
        Check.same("blanks", z.feed(0x20202020, 0x20202020, 0x20202020, 0x20202020, 0x20202020), 20);
        Check.same("then the least and the greatest", z.feed(Integer.MIN_VALUE, Integer.MAX_VALUE, -1, 0, 1), 40);
        Check.same("teach", z.teach(), 1);
        Check.same("behind the blanks", z.errorAt(), 20);
    }

    private static void bytesOfTheTape() {
        ChoirStalls x = new ChoirStalls();
        Check.same("none", x.count(13), 0);
        for (int i = 1; i <= 100; i++) {
            Check.same("feed " + i, x.feed(i, i, i, i, i), 20 * i);
            Check.same("count behind feed " + i, x.count(13), 20 * i);
        }
        ChoirStalls y = new ChoirStalls();
        y.feed(1, 2, 3, 4, 5);
        Check.same("trim", y.trim(7), 7);
        Check.same("feed", y.feed(1, 2, 3, 4, 5), 27);
    }

    private static ChoirStalls withBytes(int bytes) {
        ChoirStalls x = new ChoirStalls();
        Check.write(x, " ".repeat(bytes));
        Check.same("bytes", x.count(13), bytes);
        return x;
    }

    private static void fullTape() {
        for (int bytes : new int[] {0, 1, 1960, 1979, 1980}) {
            ChoirStalls x = withBytes(bytes);
            Check.same("feed behind " + bytes, x.feed(1, 2, 3, 4, 5), bytes + 20);
            Check.same("bytes", x.count(13), bytes + 20);
        }
        for (int bytes : new int[] {1981, 1982, 1999, 2000}) {
            // Blanks and a line that ends with the last byte: what is appended wrongly, or lost, is an error.
            ChoirStalls x = new ChoirStalls();
            Check.write(x, " ".repeat(bytes - 14) + "stall a oak 7;");
            Check.refuses(x, "feed behind " + bytes, IllegalStateException.class, () -> x.feed(-1, -1, -1, -1, -1));
            Check.refuses(x, "feed behind " + bytes, IllegalStateException.class,
                    () -> x.feed(0x20202020, 0x20202020, 0x20202020, 0x20202020, 0x20202020));
            Check.same("bytes behind it", x.count(13), bytes);
            Check.same("teach behind it", x.teach(), 0);
            Check.same("what was told", x.stall(0, 0), 7);
            Check.same("there is room again", x.feed(1, 2, 3, 4, 5), 20);
        }
    }

    private static void firstBytes() {
        ChoirStalls x = new ChoirStalls();
        Check.write(x, "stall a oak 1;stall b oak 2;stall c oak 3;");
        Check.same("trim to all", x.trim(42), 42);
        Check.same("trim to two lines", x.trim(28), 28);
        Check.same("trim to all that is left", x.trim(28), 28);
        Check.same("bytes", x.count(13), 28);
        Check.same("teach", x.teach(), 0);
        Check.same("stalls", x.count(4), 2);
        Check.same("the first", x.stall(0, 0), 1);
        Check.write(x, "stall a oak 1;stall b oak 2;");
        Check.same("trim by one byte", x.trim(27), 27);
        Check.same("teach", x.teach(), 1);
        Check.same("at its length", x.errorAt(), 27);
        Check.write(x, "stall a oak 1;");
        x.trim(11);
        // " 8; " and blanks behind "stall a oak".
        Check.same("feed behind trim", x.feed(0x20383b20, 0x20202020, 0x20202020, 0x20202020, 0x20202020), 31);
        Check.same("teach", x.teach(), 0);
        Check.same("the new byte", x.stall(0, 0), 8);
        Check.write(x, "?".repeat(40));
        Check.same("trim to none", x.trim(0), 0);
        Check.same("teach", x.teach(), 0);
        Check.same("nothing", x.count(4), 0);
    }

    private static void trimOutside() {
        for (int bytes : new int[] {0, 1, 20, 1999, 2000}) {
            for (int n : new int[] {-1, Integer.MIN_VALUE, bytes + 1, bytes + 20, 2001, Integer.MAX_VALUE}) {
                ChoirStalls x = withBytes(bytes);
                Check.refuses(x, "trim to " + n + " of " + bytes, IllegalArgumentException.class, () -> x.trim(n));
                Check.same("bytes behind it", x.count(13), bytes);
                Check.same("all can be kept", x.trim(bytes), bytes);
                Check.same("none can be kept", x.trim(0), 0);
            }
        }
        ChoirStalls x = new ChoirStalls();
        Check.write(x, "stall a oak 6;");
        Check.refuses(x, "trim to 15", IllegalArgumentException.class, () -> x.trim(15));
        Check.refuses(x, "trim to -1", IllegalArgumentException.class, () -> x.trim(-1));
        Check.same("teach behind it", x.teach(), 0);
        Check.same("what was told", x.stall(0, 0), 6);
        Check.refuses(x, "trim behind teach", IllegalArgumentException.class, () -> x.trim(1));
    }

    private static void emptyBehindTeach() {
        ChoirStalls x = new ChoirStalls();
        for (String list : new String[] {"", " ", "stall a oak 1;", "?", "oil a;", " ".repeat(2000), "?".repeat(2000), "stall a oak 0;"}) {
            Check.write(x, list);
            x.teach();
            Check.same("bytes behind teach of " + list, x.count(13), 0);
        }
        Check.write(x, "?");
        Check.same("teach with an error", x.teach(), 1);
        Check.same("teach of nothing", x.teach(), 0);
        Check.same("bytes", x.feed(0x20202020, 0x20202020, 0x20202020, 0x20202020, 0x20202020), 20);
        Check.same("only what came behind it", x.teach(), 0);
    }

    private static void emptyTape() {
        ChoirStalls x = Check.taught(LIST);
        x.setDamp(6);
        x.pass(20);
        Check.same("coins", x.count(10) > 0, true);
        Check.same("an empty list", x.teach(), 0);
        Check.rows("count", new int[] {20, 6, 0, 0, 0, 0, 0, 0, 0, 0, 0, 0, 0, 0}, x::count);
        Check.refuses(x, "no stall", IndexOutOfBoundsException.class, () -> x.stall(0, 0));
        Check.refuses(x, "no order", IndexOutOfBoundsException.class, () -> x.order(0, 0));
        Check.refuses(x, "no bishop", IndexOutOfBoundsException.class, () -> x.pleasure(0));
        Check.same("bishop", x.bishop(), -1);
        Check.same("mean", x.mean(), 0.0);
        Check.same("pass", x.pass(1), 0);
    }

    private static void anotherList() {
        ChoirStalls early = Check.taught(LIST);
        early.pass(3);
        Check.same("quality ahead", early.stall(0, 2), 26);
        Check.same("the same list", Check.teach(early, LIST), 0);
        Check.rows("stall 0", new int[] {1, -1, 0, 0, 0, 0, 0}, i -> early.stall(0, i));
        Check.same("mean", early.mean(), 0.0);
        ChoirStalls x = Check.taught(LIST);
        x.setDamp(7);
        x.pass(50);
        Check.same("coins ahead", x.count(10) > 0, true);
        Check.same("carved ahead", x.count(11) > 0, true);
        Check.same("carved by c ahead", x.carver(0, 4) > 0, true);
        Check.same("worms and rust ahead", x.count(9) > 0 && x.stall(1, 4) > 0, true);
        Check.same("the same list", Check.teach(x, LIST), 0);
        Check.rows("count", new int[] {50, 7, 2, 2, 2, 2, 4, 0, 0, 0, 0, 0, 3, 0}, x::count);
        Check.same("carved by each", x.carver(0, 4) + x.carver(1, 4), 0);
        Check.rows("stall 0", new int[] {1, -1, 0, 0, 0, 0, 0}, i -> x.stall(0, i));
        Check.rows("stall 1", new int[] {9, -1, 0, 0, 0, 0, 0}, i -> x.stall(1, i));
        for (int order = 0; order < 4; order++) {
            Check.same("work of order " + order, x.order(order, 4), 0);
        }
        Check.same("the bishop of day 50", x.bishop(), 1);
        Check.refuses(x, "no coin is left", IllegalStateException.class, () -> x.smoke(0));
        // Just as a new object on the same day and with the same damp.
        ChoirStalls y = new ChoirStalls();
        y.pass(50);
        y.setDamp(7);
        Check.same("teach", Check.teach(y, LIST), 0);
        Check.alike("as a new one", x, y);
    }

    private static void lessThanBefore() {
        ChoirStalls x = Check.taught(LIST);
        x.pass(3);
        Check.same("one stall", Check.teach(x, "stall z oak 5;oil z;"), 0);
        Check.rows("count", new int[] {3, 3, 0, 0, 1, 0, 1, 0, 0, 0, 0, 0, 0, 0}, x::count);
        Check.refuses(x, "no second stall", IndexOutOfBoundsException.class, () -> x.stall(1, 0));
        Check.refuses(x, "no beast", IndexOutOfBoundsException.class, () -> x.beast(0, 0));
        Check.refuses(x, "no carver", IndexOutOfBoundsException.class, () -> x.carver(0, 0));
        Check.refuses(x, "no second order", IndexOutOfBoundsException.class, () -> x.order(1, 0));
        Check.refuses(x, "no bishop", IndexOutOfBoundsException.class, () -> x.worst(0));
        Check.same("no test", x.order(0, 5), 1);
        Check.same("nothing is carved", x.pass(30), 0);
    }

    /** Long lists, good and wrong, one after the other: nothing of them is left in the next. */
    private static void manyListsInARow() {
        String longest = "stall s oak 1;stall t oak 1;oil t;oil t;oil t;oil s when 1=1" + " and 1=1".repeat(88) + ";";
        ChoirStalls x = new ChoirStalls();
        for (int i = 0; i < 3; i++) {
            Check.same("a long list", Check.teach(x, longest), 0);
            Check.same("its test holds", x.order(3, 5), 1);
            Check.same("a long list that does not hold", Check.teach(x, longest.replace("1=1;", "1=2;")), 0);
            Check.same("its test holds not", x.order(3, 5), 0);
            Check.same("with an error", Check.teach(x, longest + "oil u;"), 3);
            Check.same("the test of before", x.order(3, 5), 0);
        }
        Check.same("a short list", Check.teach(x, "stall s oak 1;stall t oak 1;oil s;"), 0);
        ChoirStalls y = Check.taught("stall s oak 1;stall t oak 1;oil s;");
        x.pass(9);
        y.pass(9);
        Check.same("goes as on a new object", x.digest(), y.digest());
    }

    private static void oneSortAlone() {
        String[] lists = {"beast b grim 9 fine 9;", "carver c skill 9 pace 1;", "stall s oak 1;", "bishop p grim 9 from 0;",
            "carver c skill 9 pace 1;stall s oak 1;bishop p grim 9 from 0;", "beast b grim 9 fine 1;carver c skill 9 pace 1 likes b;"};
        for (String list : lists) {
            ChoirStalls x = Check.taught(list);
            Check.same("nothing is carved with " + list, x.pass(120), 0);
            Check.same("in all", x.count(11), 0);
            Check.same("no coins", x.count(10), 0);
            // Behind a list in which all of it is told, twice.
            ChoirStalls y = Check.taught(LIST);
            Check.same("again", Check.teach(y, LIST), 0);
            Check.same("then", Check.teach(y, list), 0);
            y.pass(120);
            Check.same("as on a new object", y.digest(), x.digest());
        }
    }

    private static final String[] WITH_ERRORS = {"stall z oak 1;carve", "beast a grim 1 fine 1;stall z oak 1;stall z oak 1;",
        "stall z oak 1;oil z when squeaks z and 1<2 or day+damp*coins>3;oil y;", "beast m grim 1 fine 1;"
            + "beast n grim 1 fine 1;beast o grim 1 fine 1;beast p grim 1 fine 1;beast q grim 1 fine 1;beast r grim 1 fine 1;"
            + "beast s grim 1 fine 1;beast t grim 1 fine 1;beast u grim 1 fine 1;", "stall z oak 1;oil z when 1<2;stall y oak 10;"};

    private static void allStays() {
        for (int error = 1; error <= 5; error++) {
            for (int days : new int[] {1, 7, 40}) {
                ChoirStalls x = Check.taught(LIST);
                ChoirStalls y = Check.taught(LIST);
                x.setDamp(5);
                y.setDamp(5);
                x.pass(days);
                y.pass(days);
                Check.same("teach", Check.teach(x, WITH_ERRORS[error - 1]), error);
                Check.same("the tape is empty", x.count(13), 0);
                Check.same("teach once more", Check.teach(x, WITH_ERRORS[5 - error]), 6 - error);
                Check.same("digest", x.digest(), y.digest());
                Check.same("pass", x.pass(60), y.pass(60));
                Check.same("digest of later", x.digest(), y.digest());
                // Both have no error then; and nothing of what was told with an error is left.
                Check.same("teach", Check.teach(x, LIST) + Check.teach(y, LIST), 0);
                Check.alike("error " + error + " on day " + days, x, y);
            }
        }
    }

    private static void eachError() {
        Check.same("no error", Check.teach(new ChoirStalls(), LIST), 0);
        for (int error = 1; error <= 5; error++) {
            Check.same("the error", Check.teach(new ChoirStalls(), WITH_ERRORS[error - 1]), error);
        }
    }

    private static void noError() {
        ChoirStalls x = new ChoirStalls();
        Check.same("there was no teach", x.errorAt(), -1);
        Check.write(x, "?");
        Check.same("there was none yet", x.errorAt(), -1);
        Check.same("teach", x.teach(), 1);
        Check.same("the error", x.errorAt(), 0);
        Check.same("teach of nothing", x.teach(), 0);
        Check.same("it had none", x.errorAt(), -1);
        Check.same("teach", Check.teach(x, "stall"), 1);
        Check.same("the error", x.errorAt(), 5);
        Check.same("teach", Check.teach(x, LIST), 0);
        Check.same("it had none", x.errorAt(), -1);
    }

    private static void latestError() {
        ChoirStalls x = Check.taught(LIST);
        Check.same("teach", Check.teach(x, "oil s;"), 3);
        Check.same("the error", x.errorAt(), 4);
        x.pass(3);
        x.feed(1, 2, 3, 4, 5);
        x.trim(3);
        x.setDamp(1);
        x.oil(0);
        x.digest();
        Check.same("other calls leave it", x.errorAt(), 4);
        Check.refuses(x, "a refused call leaves it", IllegalArgumentException.class, () -> x.trim(4));
        x.trim(0);
        Check.same("teach", Check.teach(x, "stall a oak 10;"), 5);
        Check.same("the latest", x.errorAt(), 12);
        Check.same("teach", Check.teach(x, "stall a oak 1;stall a oak 1;"), 2);
        Check.same("the latest", x.errorAt(), 20);
    }

    private static void positions() {
        TokenEdgesTest.error("?", 1, 0);
        TokenEdgesTest.error(" ?", 1, 1);
        TokenEdgesTest.error("\n?", 1, 1);
        TokenEdgesTest.error(" ".repeat(19) + "?", 1, 19);
        TokenEdgesTest.error(" ".repeat(20) + "?", 1, 20);
        TokenEdgesTest.error(" ".repeat(1999) + "?", 1, 1999);
        TokenEdgesTest.error(" ".repeat(1999) + "a", 1, 1999);
        TokenEdgesTest.error(" ".repeat(1999) + ";", 1, 1999);
        TokenEdgesTest.error(" ".repeat(1997) + "oil", 1, 2000);
        TokenEdgesTest.error("\u00e4\u00e4", 1, 0);
        TokenEdgesTest.error("stall a\n\noak\n0;", 5, 13);
    }
}
