/** A refused call changes nothing: an object with one goes on just as its twin without it, tape and all. */
public final class RefusedTest {
    private static final Class<IndexOutOfBoundsException> NONE = IndexOutOfBoundsException.class;
    private static final Class<IllegalArgumentException> NOT_SO = IllegalArgumentException.class;
    private static final Class<IllegalStateException> NOT_NOW = IllegalStateException.class;

    private static final String SENTENCE = "A method that throws an exception changes nothing.";

    private static final String LIST = "beast b grim 4 fine 1;beast m grim 9 fine 3;carver c skill 9 pace 1;carver e skill 5 pace 2 likes m;"
            + "stall s oak 1;stall t oak 9;stall u oak 4;bishop p grim 3 from 0;bishop q grim 8 from 20;carve b on s by c when worms s<50;"
            + "carve m on u by e;carve m on t by c when coins>400;oil s when squeaks s;oil t when rust t>4 and day>9 or damp>7;";

    /** Told without an error, and so that what stands on the tape is read to its last byte. */
    private static final String NEXT = "beast z grim 1 fine 1;carver y skill 8 pace 1;stall x oak 2;bishop w grim 1 from 0;carve z on x by y;";

    /** How the twins have come to be, ahead of the refused call. */
    private static final int[] DAYS = {0, 1, 9, 45};

    private static final int[] NO_DAYS = {0, -1, 121, Integer.MIN_VALUE, Integer.MAX_VALUE};
    private static final int[] NO_SUCH = {-1, 20, Integer.MIN_VALUE, Integer.MAX_VALUE};

    private interface Refused {
        Object by(ChoirStalls x, int i);
    }

    public static void main(String[] args) {
        refuse("feed of a tape that is nearly full", 1981, NOT_NOW, (x, i) -> x.feed(i, i, i, i, i), -1);
        refuse("feed of a full tape", 2000, NOT_NOW, (x, i) -> x.feed(i, i, i, i, i), 0x20202020);
        refuse("trim", 500, NOT_SO, (x, n) -> x.trim(n), -1, 501, 2000, Integer.MIN_VALUE, Integer.MAX_VALUE);
        refuse("count", 300, NONE, ChoirStalls::count, NO_SUCH);
        refuse("beast", 300, NONE, (x, i) -> x.beast(i, 0), NO_SUCH);
        refuse("carver", 300, NONE, (x, i) -> x.carver(i, 3), NO_SUCH);
        refuse("stall", 300, NONE, (x, i) -> x.stall(i, 6), NO_SUCH);
        refuse("order", 300, NONE, (x, i) -> x.order(i, 5), NO_SUCH);
        refuse("pleasure", 300, NONE, ChoirStalls::pleasure, NO_SUCH);
        refuse("worst", 300, NONE, ChoirStalls::worst, NO_SUCH);
        refuse("setDamp", 300, NOT_SO, ChoirStalls::setDamp, -1, 10, Integer.MIN_VALUE, Integer.MAX_VALUE);
        refuse("oil", 300, NONE, ChoirStalls::oil, -1, 3, Integer.MIN_VALUE, Integer.MAX_VALUE);
        refuse("smoke", 300, NONE, ChoirStalls::smoke, -1, 3, Integer.MIN_VALUE, Integer.MAX_VALUE);
        refuse("strip", 300, NONE, ChoirStalls::strip, -1, 3, Integer.MIN_VALUE, Integer.MAX_VALUE);
        refuse("strip of no beast", 300, NOT_NOW, ChoirStalls::strip, 1);
        Check.sentence("Choir", SENTENCE, () -> refused("smoke without a coin", 300, 0, NOT_NOW, ChoirStalls::smoke, 0));
        refuse("pass", 300, NOT_SO, ChoirStalls::pass, NO_DAYS);
        refuse("until", 300, NONE, (x, i) -> x.until(i, 0), NO_SUCH);
        refuse("until what", 300, NONE, (x, i) -> x.until(0, i), NO_SUCH);
        refuse("foresee", 300, NOT_SO, (x, days) -> x.foresee(days, 0), NO_DAYS);
        refuse("foresee both", 300, NOT_SO, (x, days) -> x.foresee(days, 5), NO_DAYS);
        refuse("foresee what", 300, NONE, (x, i) -> x.foresee(60, i), NO_SUCH);
        refuse("advise", 300, NOT_SO, ChoirStalls::advise, 0, 91, Integer.MIN_VALUE, Integer.MAX_VALUE);
        refuse("spare", 300, NOT_SO, ChoirStalls::spare, 0, 91, Integer.MIN_VALUE, Integer.MAX_VALUE);
        Check.finish("RefusedTest");
    }

    /** Each of these numbers is refused, on each of some days. */
    private static void refuse(String what, int bytes, Class<? extends RuntimeException> due, Refused call, int... numbers) {
        Check.sentence("Choir", SENTENCE, () -> {
            for (int number : numbers) {
                for (int days : DAYS) {
                    refused(what + " " + number, bytes, days, due, call, number);
                }
            }
        });
    }

    private static ChoirStalls twin(int days, int bytes) {
        ChoirStalls x = Check.taught(LIST);
        x.setDamp(5);
        if (days > 0) {
            x.pass(days);
        }
        // The latest teach had an error, the tape has blanks and a list that ends with its last byte.
        Check.same("teach", Check.teach(x, "stall s oak 1;oil t;"), 3);
        Check.write(x, " ".repeat(bytes - NEXT.length()) + NEXT);
        return x;
    }

    private static void refused(String what, int bytes, int days, Class<? extends RuntimeException> due, Refused call, int number) {
        ChoirStalls x = twin(days, bytes);
        ChoirStalls y = twin(days, bytes);
        Check.same(what, Check.answerOf(() -> call.by(x, number)), due.getSimpleName());
        Check.alike(what + " on day " + days, x, y);
    }
}
