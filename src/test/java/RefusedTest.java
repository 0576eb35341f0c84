import java.util.function.Consumer;

/** A refused call changes nothing: an object with one goes on just as its twin without it, tape and all. */
public final class RefusedTest {
    private static final Class<IndexOutOfBoundsException> NONE = IndexOutOfBoundsException.class;
    private static final Class<IllegalArgumentException> NOT_SO = IllegalArgumentException.class;
    private static final Class<IllegalStateException> NOT_NOW = IllegalStateException.class;

    private static final String LIST = "beast b grim 4 fine 1;beast m grim 9 fine 3;carver c skill 9 pace 1;carver e skill 5 pace 2 likes m;"
            + "stall s oak 1;stall t oak 9;stall u oak 4;bishop p grim 3 from 0;bishop q grim 8 from 20;carve b on s by c when worms s<50;"
            + "carve m on u by e;carve m on t by c when coins>400;oil s when squeaks s;oil t when rust t>4 and day>9 or damp>7;";

    /** Told without an error, and so that what stands on the tape is read to its last byte. */
    private static final String NEXT = "beast z grim 1 fine 1;carver y skill 8 pace 1;stall x oak 2;bishop w grim 1 from 0;carve z on x by y;";

    /** How the twins have come to be, ahead of the refused call. */
    private static final int[] DAYS = {0, 1, 9, 45};

    public static void main(String[] args) {
        each("feed", 1981, NOT_NOW, x -> x.feed(-1, -1, -1, -1, -1));
        each("feed", 2000, NOT_NOW, x -> x.feed(0, 0, 0, 0, 0));
        for (int n : new int[] {-1, Integer.MIN_VALUE, 501, 2000, Integer.MAX_VALUE}) {
            each("trim " + n, 500, NOT_SO, x -> x.trim(n));
        }
        for (int i : new int[] {-1, Integer.MIN_VALUE, 20, Integer.MAX_VALUE}) {
            asked(i);
            each("setDamp " + i, 300, NOT_SO, x -> x.setDamp(i));
            each("oil " + i, 300, NONE, x -> x.oil(i));
            each("smoke " + i, 300, NONE, x -> x.smoke(i));
            each("strip " + i, 300, NONE, x -> x.strip(i));
        }
        each("setDamp 10", 300, NOT_SO, x -> x.setDamp(10));
        each("oil 3", 300, NONE, x -> x.oil(3));
        each("smoke 3", 300, NONE, x -> x.smoke(3));
        each("strip 3", 300, NONE, x -> x.strip(3));
        each("strip of none", 300, NOT_NOW, x -> x.strip(1));
        refused("smoke without a coin", 300, 0, NOT_NOW, x -> x.smoke(0));
        for (int days : new int[] {0, -1, 121, Integer.MIN_VALUE, Integer.MAX_VALUE}) {
            each("pass " + days, 300, NOT_SO, x -> x.pass(days));
            each("foresee " + days, 300, NOT_SO, x -> x.foresee(days, 0));
            each("foresee " + days + ", and what", 300, NOT_SO, x -> x.foresee(days, 5));
        }
        for (int days : new int[] {0, 91, Integer.MIN_VALUE, Integer.MAX_VALUE}) {
            each("advise " + days, 300, NOT_SO, x -> x.advise(days));
            each("spare " + days, 300, NOT_SO, x -> x.spare(days));
        }
        Check.finish("RefusedTest");
    }

    private static void asked(int i) {
        each("count " + i, 300, NONE, x -> x.count(i));
        each("beast " + i, 300, NONE, x -> x.beast(i, 0));
        each("carver " + i, 300, NONE, x -> x.carver(i, 3));
        each("stall " + i, 300, NONE, x -> x.stall(i, 6));
        each("order " + i, 300, NONE, x -> x.order(i, 5));
        each("pleasure " + i, 300, NONE, x -> x.pleasure(i));
        each("worst " + i, 300, NONE, x -> x.worst(i));
        each("until " + i, 300, NONE, x -> x.until(i, 0));
        each("until what " + i, 300, NONE, x -> x.until(0, i));
        each("foresee what " + i, 300, NONE, x -> x.foresee(60, i));
    }

    private static void each(String what, int bytes, Class<? extends RuntimeException> due, Consumer<ChoirStalls> call) {
        for (int days : DAYS) {
            refused(what, bytes, days, due, call);
        }
    }

    private static ChoirStalls twin(int days, int bytes) {
        ChoirStalls x = Check.taught(LIST);
        x.setDamp(5);
        if (days > 0) {
            x.pass(days);
        }
        // The latest teach had an error, the tape has blanks and a list that ends with its last byte.
        Check.same("teach", Check.teach(x, "stall s oak 1;oil t;"), 3);
        Check.write(x, " ".repeat(bytes - NEXT.length()) + NEXT);
        return x;
    }

    private static void refused(String what, int bytes, int days, Class<? extends RuntimeException> due, Consumer<ChoirStalls> call) {
        Check.sentence("Choir", "A method that throws an exception changes nothing.", () -> {
            ChoirStalls x = twin(days, bytes);
            ChoirStalls y = twin(days, bytes);
            Object thrown = Check.answerOf(() -> {
                call.accept(x);
                return "nothing";
            });
            Check.same(what, thrown, due.getSimpleName());
            Check.alike(what + " on day " + days, x, y);
        });
    }
}
