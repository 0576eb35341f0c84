/** Edges of promises 6 to 13: what there is. */
public final class FactsEdgesTest {
    private static final Class<IndexOutOfBoundsException> NONE = IndexOutOfBoundsException.class;

    /** 2 beasts, 3 carvers, 4 stalls, 5 bishops, 6 orders: no two alike. */
    private static final String LIST = "beast b grim 4 fine 1;beast d grim 7 fine 2;"
            + "carver c skill 9 pace 1;carver e skill 5 pace 2 likes b;carver f skill 2 pace 4 likes d;"
            + "stall s oak 1;stall t oak 9;stall u oak 5;stall v oak 3;"
            + "bishop i grim 4 from 0;bishop j grim 0 from 1;bishop k grim 9 from 2;bishop l grim 7 from 3;bishop m grim 1 from 999;"
            + "carve b on s by c;carve d on t by e;carve b on u by f when day>99;oil t;oil u when squeaks u;carve d on v by f;";

    public static void main(String[] args) {
        Check.sentence("Promise 6", "Throws IndexOutOfBoundsException if what is not 0 to 13", FactsEdgesTest::countOutside);
        Check.sentence("Promise 6", "0 the day, 1 the damp, 2 beasts, 3 carvers, 4 stalls, 5 bishops, 6 orders,"
                + " 7 stalls that bear a beast, 8 stalls that squeak, 9 all worms, 10 coins, 11 beasts that were carved in all,"
                + " 12 orders of carve that are open, 13 bytes of the tape", FactsEdgesTest::counts);
        Check.sentence("Promise 6", "7 stalls that bear a beast, 8 stalls that squeak, 9 all worms", FactsEdgesTest::allStalls);
        Check.sentence("Promise 6", "11 beasts that were carved in all", FactsEdgesTest::carvedInAll);
        Check.sentence("Promise 7", "Throws IndexOutOfBoundsException if there is no such beast, or what is not 0 to 2",
                FactsEdgesTest::beastOutside);
        Check.sentence("Promise 7", "2 stalls that bear it", FactsEdgesTest::stallsThatBearIt);
        Check.sentence("Promise 8", "Throws IndexOutOfBoundsException if there is no such carver, or what is not 0 to 4",
                FactsEdgesTest::carverOutside);
        Check.sentence("Promise 8", "2 the beast that this one likes, -1 for none", FactsEdgesTest::likedBeast);
        Check.sentence("Promise 8", "3 the order on which this one would work today, as all is now (ahead of the work of others),"
                + " -1 for none", FactsEdgesTest::orderOfToday);
        Check.sentence("Promise 8", "4 beasts that this one carved in all", FactsEdgesTest::carvedByEach);
        Check.sentence("Promise 9", "Throws IndexOutOfBoundsException if there is no such stall, or what is not 0 to 6",
                FactsEdgesTest::stallOutside);
        Check.sentence("Promise 9", "1 the beast that it bears, -1 for none", FactsEdgesTest::beastOfStall);
        Check.sentence("Promise 9", "5 1 if it squeaks, else 0", FactsEdgesTest::squeakOfStall);
        Check.sentence("Promise 9", "6 by how much it would please the bishop of today, without its squeaking: 0 without a bishop"
                + " or a beast", FactsEdgesTest::pleasureOfStall);
        Check.sentence("Promise 10", "Throws IndexOutOfBoundsException if there is no such order, or what is not 0 to 5",
                FactsEdgesTest::orderOutside);
        Check.sentence("Promise 10", "0 0 for carve, 1 for oil, 1 its stall, 2 its beast, -1 for oil, 3 its carver, -1 for oil,"
                + " 4 its work, 0 for oil", FactsEdgesTest::kindsOfOrders);
        Check.sentence("Promise 10", "5 1 if it is open and its test holds now (or it has none), for oil if its test holds now"
                + " (or it has none), else 0", FactsEdgesTest::dueOrders);
        Check.sentence("Promise 11", "Returns the bishop of today; -1 if there is none.", FactsEdgesTest::bishopOfToday);
        Check.sentence("Promise 12", "Throws IndexOutOfBoundsException if there is no such bishop", FactsEdgesTest::bishopOutside);
        Check.sentence("Promise 12", "Returns the pleasure of this one, as the choir is now.", FactsEdgesTest::pleasureNow);
        Check.sentence("Promise 13", "Throws IndexOutOfBoundsException if there is no such bishop", FactsEdgesTest::worstOutside);
        Check.sentence("Promise 13", "of several the one with the smallest number", FactsEdgesTest::worstOfSeveral);
        Check.sentence("Promise 13", "its squeaking counted with 3 less", FactsEdgesTest::worstThatSqueaks);
        Check.sentence("Promise 13", "-1 if none bears a beast", FactsEdgesTest::worstOfNone);
        Check.sentence("Promise 13", "the stall that bears a beast and pleases this one the least", FactsEdgesTest::worstThatBears);
        Check.sentence("Not promised", "Nothing is promised beyond the answers and state changes described above",
                FactsEdgesTest::askingChangesNothing);
        Check.finish("FactsEdgesTest");
    }

    private interface Asked {
        int answer(ChoirStalls x, int number);
    }

    /** From 0 to below the end it answers, outside it throws; so it does on the first day and later. */
    private static void outside(String what, int end, Asked asked) {
        for (int days : new int[] {0, 5}) {
            ChoirStalls x = Check.taught(LIST);
            if (days > 0) {
                x.pass(days);
            }
            for (int number : new int[] {-1, -2, end, end + 1, 1000, Integer.MIN_VALUE, Integer.MAX_VALUE}) {
                Check.refuses(x, what + " " + number, NONE, () -> asked.answer(x, number));
            }
            for (int number = 0; number < end; number++) {
                int good = number;
                Object answer = Check.answerOf(() -> asked.answer(x, good));
                Check.same(what + " " + number + " is answered", answer instanceof Integer, true);
            }
        }
    }

    private static void askingChangesNothing() {
        for (int days : new int[] {1, 6}) {
            ChoirStalls x = Check.taught(LIST);
            ChoirStalls y = Check.taught(LIST);
            x.pass(days);
            y.pass(days);
            Check.write(x, "stall a oak 1;");
            Check.write(y, "stall a oak 1;");
            int[] ends = {14, 3, 5, 7, 6, 5, 5};
            Asked[] all = {ChoirStalls::count, (z, i) -> z.beast(1, i), (z, i) -> z.carver(2, i), (z, i) -> z.stall(0, i),
                (z, i) -> z.order(2, i), ChoirStalls::pleasure, ChoirStalls::worst};
            for (int i = 0; i < all.length; i++) {
                for (int what = 0; what < ends[i]; what++) {
                    int asked = what;
                    Asked ask = all[i];
                    Check.same("it is answered", Check.answerOf(() -> ask.answer(x, asked)) instanceof Integer, true);
                }
            }
            x.bishop();
            x.mean();
            x.errorAt();
            x.digest();
            Check.alike("asked or not", x, y);
        }
    }

    private static void countOutside() {
        outside("count", 14, ChoirStalls::count);
        ChoirStalls x = new ChoirStalls();
        Check.refuses(x, "count 14", NONE, () -> x.count(14));
        Check.refuses(x, "count -1", NONE, () -> x.count(-1));
        Check.same("count 13", x.count(13), 0);
    }

    private static void counts() {
        ChoirStalls x = Check.taught(LIST);
        Check.rows("at first", new int[] {0, 3, 2, 3, 4, 5, 6, 0, 0, 0, 0, 0, 4, 0}, x::count);
        x.setDamp(8);
        x.pass(1);
        x.feed(0, 0, 0, 0, 0);
        // b is carved on s; worms: 4, 2, 3, 4; coins: 26 / 10.
        Check.rows("behind a day", new int[] {1, 8, 2, 3, 4, 5, 6, 1, 0, 13, 2, 1, 3, 20}, x::count);
    }

    private static String tenStalls(String orders) {
        StringBuilder all = new StringBuilder("beast b grim 4 fine 1;beast d grim 4 fine 1;carver c skill 9 pace 1;");
        for (int i = 0; i < 10; i++) {
            all.append("stall s").append(i).append(" oak 1;");
        }
        for (int i = 0; i < 10; i++) {
            all.append(orders.replace("#", "" + i));
        }
        return all.toString();
    }

    private static void allStalls() {
        ChoirStalls x = Check.taught(tenStalls("carve b on s# by c;"));
        x.setDamp(9);
        Check.same("none squeaks, none bears", x.count(7) + x.count(8) + x.count(9), 0);
        for (int day = 1; day <= 10; day++) {
            x.pass(1);
            Check.same("stalls that bear one behind " + day, x.count(7), day);
            Check.same("stalls that squeak behind " + day, x.count(8), day < 8 ? 0 : 10);
            Check.same("open behind " + day, x.count(12), 10 - day);
        }
        x.oil(9);
        x.oil(0);
        Check.same("stalls that squeak", x.count(8), 8);
        x.pass(120);
        Check.same("the most worms", x.count(9), 990);
        Check.same("all squeak", x.count(8), 10);
        x.strip(9);
        x.strip(0);
        Check.same("stalls that bear one", x.count(7), 8);
        Check.same("open", x.count(12), 2);
    }

    private static void carvedInAll() {
        ChoirStalls x = Check.taught(tenStalls("carve b on s# by c;"));
        for (int day = 1; day <= 10; day++) {
            Check.same("carved on a day", x.pass(1), 1);
            Check.same("carved in all", x.count(11), day);
        }
        Check.same("no more", x.pass(1), 0);
        Check.same("carved in all", x.count(11), 10);
        x.strip(4);
        Check.same("it stays", x.count(11), 10);
        x.pass(1);
        Check.same("the same once more", x.count(11), 11);
    }

    private static void beastOutside() {
        outside("beast", 2, (x, i) -> x.beast(i, 0));
        outside("what of beast 0", 3, (x, i) -> x.beast(0, i));
        outside("what of beast 1", 3, (x, i) -> x.beast(1, i));
        ChoirStalls x = Check.taught(LIST);
        Check.refuses(x, "neither", NONE, () -> x.beast(2, 3));
        Check.rows("the last", new int[] {7, 2, 0}, i -> x.beast(1, i));
    }

    private static void stallsThatBearIt() {
        ChoirStalls x = Check.taught(tenStalls("carve b on s# by c;"));
        for (int day = 0; day <= 10; day++) {
            Check.same("stalls that bear b", x.beast(0, 2), day);
            Check.same("stalls that bear d", x.beast(1, 2), 0);
            x.pass(1);
        }
        x.strip(3);
        Check.same("stalls that bear b", x.beast(0, 2), 9);
        ChoirStalls y = Check.taught(tenStalls("carve d on s# by c;"));
        y.pass(10);
        Check.same("none bears b", y.beast(0, 2), 0);
        Check.same("all bear d", y.beast(1, 2), 10);
    }

    private static void carverOutside() {
        outside("carver", 3, (x, i) -> x.carver(i, 0));
        outside("what of carver 0", 5, (x, i) -> x.carver(0, i));
        outside("what of carver 2", 5, (x, i) -> x.carver(2, i));
        ChoirStalls x = Check.taught(LIST);
        Check.refuses(x, "neither", NONE, () -> x.carver(3, 5));
        Check.rows("the last", new int[] {2, 4, 1, 5, 0}, i -> x.carver(2, i));
    }

    private static void likedBeast() {
        ChoirStalls x = Check.taught(LIST);
        Check.same("none", x.carver(0, 2), -1);
        Check.same("the first", x.carver(1, 2), 0);
        Check.same("the last", x.carver(2, 2), 1);
    }

    private static void orderOfToday() {
        // Both could carve b on s; e, who comes second, is asked ahead of c's work too.
        ChoirStalls x = Check.taught("beast b grim 4 fine 1;carver c skill 9 pace 1;carver e skill 9 pace 2;carver f skill 9 pace 1;"
                + "stall s oak 1;stall t oak 1;carve b on s by c;carve b on s by e;carve b on t by e when day=2 or bears s b;oil s;");
        Check.same("c", x.carver(0, 3), 0);
        Check.same("e, ahead of c's work", x.carver(1, 3), 1);
        Check.same("f has none", x.carver(2, 3), -1);
        x.pass(1);
        Check.same("c has none any more", x.carver(0, 3), -1);
        Check.same("e does not work on day 1", x.carver(1, 3), -1);
        x.pass(1);
        Check.same("e has none: t was carved on day 0", x.carver(1, 3), -1);
        x.strip(1);
        Check.same("e, on day 2", x.carver(1, 3), 2);
        x.strip(0);
        Check.same("e, the first one told", x.carver(1, 3), 1);
        Check.same("c again", x.carver(0, 3), 0);
        Check.same("nothing is worked by asking", x.order(0, 4) + x.order(1, 4) + x.order(2, 4), 0);
        ChoirStalls y = Check.taught("carver c skill 9 pace 1;");
        Check.same("without orders", y.carver(0, 3), -1);
    }

    private static void carvedByEach() {
        ChoirStalls x = Check.taught("beast b grim 4 fine 1;carver c skill 9 pace 1;carver e skill 9 pace 1;stall s oak 1;stall t oak 1;"
                + "stall u oak 1;carve b on s by c;carve b on t by e;carve b on u by e;");
        Check.same("none", x.carver(0, 4) + x.carver(1, 4), 0);
        x.pass(1);
        Check.same("c", x.carver(0, 4), 1);
        Check.same("e", x.carver(1, 4), 1);
        x.pass(9);
        Check.same("c", x.carver(0, 4), 1);
        Check.same("e", x.carver(1, 4), 2);
        Check.same("in all", x.count(11), 3);
    }

    private static void stallOutside() {
        outside("stall", 4, (x, i) -> x.stall(i, 0));
        outside("what of stall 0", 7, (x, i) -> x.stall(0, i));
        outside("what of stall 3", 7, (x, i) -> x.stall(3, i));
        ChoirStalls x = Check.taught(LIST);
        Check.refuses(x, "neither", NONE, () -> x.stall(4, 7));
        Check.rows("the last", new int[] {3, -1, 0, 0, 0, 0, 0}, i -> x.stall(3, i));
    }

    private static void beastOfStall() {
        ChoirStalls x = Check.taught("beast b grim 4 fine 1;beast d grim 4 fine 1;carver c skill 9 pace 1;stall s oak 1;stall t oak 1;"
                + "stall u oak 1;carve d on t by c;carve b on s by c;");
        Check.rows("none", new int[] {-1, -1, -1}, i -> x.stall(i, 1));
        x.pass(1);
        Check.rows("d on t", new int[] {-1, 1, -1}, i -> x.stall(i, 1));
        x.pass(1);
        Check.rows("b on s", new int[] {0, 1, -1}, i -> x.stall(i, 1));
        x.strip(0);
        Check.rows("none on s", new int[] {-1, 1, -1}, i -> x.stall(i, 1));
    }

    private static void squeakOfStall() {
        ChoirStalls x = Check.taught(LIST);
        x.setDamp(4);
        x.pass(7);
        Check.rows("with 7", new int[] {0, 0, 0, 0}, i -> x.stall(i, 5));
        x.pass(1);
        // t is oiled each day, u when it squeaks.
        Check.rows("with 8", new int[] {1, 0, 1, 1}, i -> x.stall(i, 5));
        x.pass(1);
        Check.rows("with 9", new int[] {1, 0, 0, 1}, i -> x.stall(i, 5));
    }

    private static void pleasureOfStall() {
        ChoirStalls x = Check.taught("beast b grim 4 fine 1;carver c skill 9 pace 1;stall s oak 1;stall t oak 1;bishop p grim 0 from 2;"
                + "bishop q grim 9 from 3;carve b on s by c;");
        Check.same("neither", x.stall(0, 6), 0);
        x.pass(1);
        Check.same("without a bishop", x.stall(0, 6), 0);
        x.pass(1);
        Check.same("the first bishop", x.stall(0, 6), 26 - 8);
        Check.same("without a beast", x.stall(1, 6), 0);
        x.pass(1);
        Check.same("the second bishop", x.stall(0, 6), 26 - 10);
        x.setDamp(4);
        x.pass(8);
        Check.same("it squeaks", x.stall(0, 5), 1);
        Check.same("which does not count", x.stall(0, 6), 26 - 10);
        Check.same("nor without a beast", x.stall(1, 6), 0);
        x.strip(0);
        Check.same("stripped", x.stall(0, 6), 0);
        ChoirStalls y = Check.taught("beast b grim 9 fine 1;carver c skill 1 pace 1;stall s oak 9;bishop p grim 0 from 0;carve b on s by c;");
        y.pass(18);
        Check.same("quality of 1, less 18", y.stall(0, 6), -17);
    }

    private static void orderOutside() {
        outside("order", 6, (x, i) -> x.order(i, 0));
        outside("what of order 0", 6, (x, i) -> x.order(0, i));
        outside("what of order 4, of oil", 6, (x, i) -> x.order(4, i));
        ChoirStalls x = Check.taught(LIST);
        Check.refuses(x, "neither", NONE, () -> x.order(6, 6));
        Check.rows("the last", new int[] {0, 3, 1, 2, 0, 1}, i -> x.order(5, i));
    }

    private static void kindsOfOrders() {
        ChoirStalls x = Check.taught(LIST);
        x.pass(5);
        Check.rows("of carve, done", new int[] {0, 0, 0, 0, 0, 0}, i -> x.order(0, i));
        Check.rows("of carve", new int[] {0, 1, 1, 1, 15, 1}, i -> x.order(1, i));
        Check.rows("of carve, with a test", new int[] {0, 2, 0, 2, 0, 0}, i -> x.order(2, i));
        Check.rows("of oil", new int[] {1, 1, -1, -1, 0, 1}, i -> x.order(3, i));
        Check.rows("of oil, with a test", new int[] {1, 2, -1, -1, 0, 0}, i -> x.order(4, i));
        Check.rows("of carve, by another", new int[] {0, 3, 1, 2, 8, 1}, i -> x.order(5, i));
    }

    private static void dueOrders() {
        ChoirStalls x = Check.taught("beast b grim 4 fine 1;carver c skill 9 pace 4;stall s oak 1;stall t oak 1;"
                + "carve b on s by c;carve b on s by c when day=1;carve b on t by c when day=1;oil s;oil s when day=1;");
        Check.rows("on day 0", new int[] {1, 0, 0, 1, 0}, i -> x.order(i, 5));
        x.pass(1);
        // b is carved on s, and the pace is none of it.
        Check.rows("on day 1", new int[] {0, 0, 1, 1, 1}, i -> x.order(i, 5));
        x.strip(0);
        Check.rows("stripped", new int[] {1, 1, 1, 1, 1}, i -> x.order(i, 5));
        x.pass(1);
        Check.rows("on day 2", new int[] {1, 0, 0, 1, 0}, i -> x.order(i, 5));
    }

    private static void bishopOfToday() {
        ChoirStalls x = Check.taught(LIST);
        int[] due = {0, 1, 2, 3, 3};
        for (int day = 0; day < due.length; day++) {
            Check.same("bishop of day " + day, x.bishop(), due[day]);
            x.pass(1);
        }
        Check.same("without bishops", Check.taught("stall s oak 1;").bishop(), -1);
        Check.same("not yet", Check.taught("bishop p grim 0 from 1;").bishop(), -1);
    }

    private static void bishopOutside() {
        outside("pleasure", 5, ChoirStalls::pleasure);
        ChoirStalls x = Check.taught("stall s oak 1;");
        Check.refuses(x, "without bishops", NONE, () -> x.pleasure(0));
    }

    private static void pleasureNow() {
        ChoirStalls x = Check.taught(LIST);
        Check.rows("at first", new int[] {0, 0, 0, 0, 0}, x::pleasure);
        x.pass(1);
        Check.rows("those of later days too", new int[] {26, 26 - 8, 26 - 10, 26 - 6, 26 - 6}, x::pleasure);
        x.strip(0);
        Check.rows("stripped", new int[] {0, 0, 0, 0, 0}, x::pleasure);
    }

    private static void worstOutside() {
        outside("worst", 5, ChoirStalls::worst);
        ChoirStalls x = Check.taught("stall s oak 1;");
        Check.refuses(x, "without bishops", NONE, () -> x.worst(0));
    }

    /** Three stalls that are carved alike, the last one first. */
    private static ChoirStalls threeAlike() {
        ChoirStalls x = Check.taught("beast b grim 4 fine 1;carver c skill 9 pace 1;stall r oak 9;stall s oak 1;stall t oak 1;stall u oak 1;"
                + "bishop p grim 4 from 0;carve b on u by c when day=0;carve b on t by c when day=1;carve b on s by c when day=2;");
        x.setDamp(4);
        x.pass(3);
        return x;
    }

    private static void worstOfSeveral() {
        ChoirStalls x = threeAlike();
        Check.rows("alike", new int[] {0, 26, 26, 26}, i -> x.stall(i, 6));
        Check.same("the first of three", x.worst(0), 1);
        x.strip(1);
        Check.same("the first of two", x.worst(0), 2);
        x.strip(2);
        Check.same("the only one", x.worst(0), 3);
    }

    private static void worstThatSqueaks() {
        ChoirStalls x = threeAlike();
        x.pass(5);
        Check.same("all squeak", x.count(8), 4);
        Check.same("all squeak alike", x.worst(0), 1);
        x.oil(1);
        Check.same("the first squeaks no more", x.worst(0), 2);
        x.oil(2);
        Check.same("the second neither", x.worst(0), 3);
        x.oil(3);
        Check.same("none but the one without a beast", x.worst(0), 1);
        // 26 less 3 by a squeak is as much as a quality of 23; and more than one of 22, less than one of 24.
        for (int oak = 3; oak <= 5; oak++) {
            ChoirStalls y = Check.taught("beast b grim 4 fine 1;carver c skill 9 pace 1;stall s oak " + oak + ";stall t oak 1;"
                    + "bishop p grim 4 from 0;carve b on s by c;carve b on t by c;oil s when day>6;");
            y.setDamp(4);
            y.pass(8);
            Check.same("quality of s", y.stall(0, 2), 27 - oak);
            Check.same("only t squeaks", y.stall(1, 5) * 10 + y.stall(0, 5), 10);
            Check.same("23 for t, for s " + (27 - oak), y.worst(0), oak == 3 ? 1 : 0);
        }
    }

    private static void worstOfNone() {
        ChoirStalls x = threeAlike();
        x.pass(10);
        x.strip(1);
        x.strip(2);
        Check.same("one bears one", x.worst(0), 3);
        x.strip(3);
        Check.same("none bears one, all squeak", x.worst(0), -1);
        Check.same("at first", Check.taught("stall s oak 1;bishop p grim 1 from 0;").worst(0), -1);
        Check.same("without stalls", Check.taught("bishop p grim 1 from 0;").worst(0), -1);
    }

    private static void worstThatBears() {
        // s bears none; t pleases p by 25 and q by 7, u pleases p by 8 and q by 26.
        ChoirStalls x = Check.taught("beast b grim 0 fine 1;beast d grim 9 fine 1;carver c skill 9 pace 1;stall s oak 1;stall t oak 2;"
                + "stall u oak 1;bishop p grim 0 from 0;bishop q grim 9 from 500;carve b on t by c;carve d on u by c;");
        x.pass(1);
        Check.same("the only one", x.worst(1), 1);
        x.pass(1);
        Check.same("worst of p", x.worst(0), 2);
        Check.same("worst of q", x.worst(1), 1);
        ChoirStalls y = Check.taught("beast b grim 9 fine 1;carver c skill 1 pace 1;stall s oak 1;stall t oak 9;bishop p grim 0 from 0;"
                + "carve b on t by c;");
        y.pass(18);
        Check.same("less than 0", y.stall(1, 6), -17);
        Check.same("less than 0 is the least", y.worst(0), 1);
    }
}
