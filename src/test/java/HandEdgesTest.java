/** Edges of promises 14 to 18: what is done by hand, and days. */
public final class HandEdgesTest {
    private static final Class<IndexOutOfBoundsException> NONE = IndexOutOfBoundsException.class;
    private static final Class<IllegalArgumentException> NOT_SO = IllegalArgumentException.class;
    private static final Class<IllegalStateException> NOT_NOW = IllegalStateException.class;

    /** b is carved on s on the first day and gives 2 coins a day, till s squeaks; then too. */
    private static final String LIST = "beast b grim 4 fine 1;beast d grim 4 fine 1;carver c skill 9 pace 1;stall s oak 1;stall t oak 4;"
            + "bishop p grim 4 from 0;carve b on s by c when day<9;carve d on t by c when day>900;";

    public static void main(String[] args) {
        Check.sentence("Promise 14", "Throws IllegalArgumentException if damp is not 0 to 9", HandEdgesTest::dampOutside);
        Check.sentence("Promise 14", "Returns the one before.", HandEdgesTest::dampBefore);
        Check.sentence("Promise 14", "the damp from now on", HandEdgesTest::dampFromNowOn);
        Check.sentence("Promise 15", "Throws IndexOutOfBoundsException if there is no such stall",
                () -> stallOutside("oil", ChoirStalls::oil));
        Check.sentence("Promise 15", "Returns its rust before.", HandEdgesTest::rustBefore);
        Check.sentence("Promise 16", "half of its worms are left (cut)", HandEdgesTest::halfOfTheWorms);
        Check.sentence("Promise 16", "it costs 1 coin", HandEdgesTest::lastCoin);
        Check.sentence("Promise 16", "Throws IndexOutOfBoundsException if there is no such stall",
                () -> stallOutside("smoke", ChoirStalls::smoke));
        Check.sentence("Promise 16", "Throws IllegalStateException if there is no coin", HandEdgesTest::noCoin);
        Check.sentence("Promise 17", "Takes the beast of a stall away; it has no quality then.", HandEdgesTest::stripped);
        Check.sentence("Promise 17", "Returns the beast.", HandEdgesTest::strippedBeasts);
        Check.sentence("Promise 17", "Throws IndexOutOfBoundsException if there is no such stall",
                () -> stallOutside("strip", ChoirStalls::strip));
        Check.sentence("Promise 17", "Throws IllegalStateException if it bears none", HandEdgesTest::noBeast);
        Check.sentence("Promise 18", "Throws IllegalArgumentException if days is not 1 to 120", HandEdgesTest::daysOutside);
        Check.sentence("Promise 18", "Returns how many beasts are carved in them.", HandEdgesTest::carvedInThem);
        Check.sentence("Choir", "If several exceptions apply, the one that is named first is thrown.", HandEdgesTest::twoExceptions);
        Check.finish("HandEdgesTest");
    }

    private interface Done {
        int by(ChoirStalls x, int stall);
    }

    private static void dampOutside() {
        for (int before = 0; before <= 9; before += 3) {
            ChoirStalls x = Check.taught(LIST);
            x.setDamp(before);
            for (int damp : new int[] {-1, -2, 10, 11, 100, Integer.MIN_VALUE, Integer.MAX_VALUE}) {
                Check.refuses(x, "damp of " + damp, NOT_SO, () -> x.setDamp(damp));
                Check.same("the damp behind it", x.count(1), before);
            }
            Check.same("0 is taken", x.setDamp(0), before);
            Check.same("9 is taken", x.setDamp(9), 0);
            Check.same("9 is the damp", x.count(1), 9);
        }
    }

    private static void dampBefore() {
        ChoirStalls x = new ChoirStalls();
        Check.same("3 at first", x.setDamp(9), 3);
        for (int damp = 0; damp <= 9; damp++) {
            Check.same("before " + damp, x.setDamp(damp), damp == 0 ? 9 : damp - 1);
            Check.same("the same again", x.setDamp(damp), damp);
        }
    }

    private static void dampFromNowOn() {
        ChoirStalls x = Check.taught("stall s oak 1;");
        x.setDamp(8);
        Check.same("nothing comes at once", x.count(9), 0);
        x.pass(2);
        Check.same("8 worms in two days", x.count(9), 8);
        x.setDamp(2);
        x.pass(2);
        Check.same("2 more in two more", x.count(9), 10);
        Check.same("damp", x.count(1), 2);
        x.pass(120);
        Check.same("it stays", x.count(1), 2);
        Check.same("over a list too", Check.teach(x, LIST) * 10 + x.count(1), 2);
    }

    private static void stallOutside(String what, Done done) {
        for (int days : new int[] {0, 3}) {
            ChoirStalls x = Check.taught(LIST);
            if (days > 0) {
                x.pass(days);
            }
            for (int stall : new int[] {-1, -2, 2, 3, 10, Integer.MIN_VALUE, Integer.MAX_VALUE}) {
                Check.refuses(x, what + " " + stall, NONE, () -> done.by(x, stall));
            }
        }
        ChoirStalls full = Check.taught("stall a oak 1;stall b oak 1;stall c oak 1;stall d oak 1;stall e oak 1;"
                + "stall f oak 1;stall g oak 1;stall h oak 1;stall i oak 1;stall j oak 1;");
        Check.refuses(full, what + " 10 of ten", NONE, () -> done.by(full, 10));
        Check.same(what + " 9 of ten", Check.answerOf(() -> done.by(full, 9)), what.equals("oil") ? (Object) 0 : "IllegalStateException");
        ChoirStalls none = new ChoirStalls();
        Check.refuses(none, what + " 0 of none", NONE, () -> done.by(none, 0));
    }

    private static void rustBefore() {
        ChoirStalls x = Check.taught(LIST);
        Check.same("none at first", x.oil(0), 0);
        x.setDamp(4);
        for (int rust = 1; rust <= 21; rust++) {
            x.pass(1);
            if (rust == 7 || rust == 8) {
                Check.same("rust", x.stall(1, 4), rust);
            }
        }
        Check.same("the most", x.oil(0), 20);
        Check.same("none is left", x.stall(0, 4), 0);
        Check.same("none again", x.oil(0), 0);
        Check.same("the other has it still", x.stall(1, 4), 20);
        Check.same("it squeaks no more", x.stall(0, 5), 0);
        x.pass(7);
        Check.same("rust of 7", x.oil(0), 7);
        x.pass(8);
        Check.same("rust of 8", x.oil(0), 8);
        Check.same("the other's", x.oil(1), 20);
        Check.same("none squeaks", x.count(8), 0);
    }

    /** Just so many worms on t, none on s, and the coins to smoke them. */
    private static ChoirStalls withWorms(int worms) {
        ChoirStalls x = Check.taught(LIST.replace("stall s oak 1;stall t oak 4;", "stall s oak 9;stall t oak 1;"));
        x.setDamp(0);
        x.pass(20);
        x.setDamp(2);
        if (worms > 0) {
            x.pass(worms);
        }
        return x;
    }

    private static void halfOfTheWorms() {
        int[][] due = {{0, 0}, {1, 0}, {2, 1}, {3, 1}, {4, 2}, {29, 14}, {30, 15}, {31, 15}, {98, 49}, {99, 49}};
        for (int[] row : due) {
            ChoirStalls x = withWorms(row[0]);
            int coins = x.count(10);
            Check.same("worms", x.stall(1, 3), row[0]);
            Check.same("left of " + row[0], x.smoke(1), row[1]);
            Check.same("worms left of " + row[0], x.stall(1, 3), row[1]);
            Check.same("all worms left of " + row[0], x.count(9), row[1]);
            Check.same("a coin for " + row[0], x.count(10), coins - 1);
        }
        ChoirStalls y = withWorms(99);
        int[] left = {49, 24, 12, 6, 3, 1, 0, 0};
        for (int worms : left) {
            Check.same("left", y.smoke(1), worms);
        }
    }

    private static void lastCoin() {
        // The bishop goes with day 1: 2 coins.
        ChoirStalls x = Check.taught("beast b grim 9 fine 1;carver c skill 9 pace 1;stall s oak 2;bishop p grim 9 from 0;bishop q grim 0 from 1;"
                + "carve b on s by c;");
        x.setDamp(8);
        x.pass(3);
        Check.same("coins", x.count(10), 2);
        Check.same("worms", x.stall(0, 3), 12);
        Check.same("smoke", x.smoke(0), 6);
        Check.same("the last coin", x.count(10), 1);
        Check.same("smoke for the last coin", x.smoke(0), 3);
        Check.same("no coin", x.count(10), 0);
        Check.refuses(x, "smoke for nothing", NOT_NOW, () -> x.smoke(0));
        Check.same("worms behind it", x.stall(0, 3), 3);
        Check.same("coins behind it", x.count(10), 0);
        x.pass(1);
        Check.same("worms go on", x.stall(0, 3), 7);
    }

    private static void noCoin() {
        ChoirStalls x = Check.taught(LIST);
        x.setDamp(9);
        Check.refuses(x, "on the first day", NOT_NOW, () -> x.smoke(0));
        Check.refuses(x, "on the first day", NOT_NOW, () -> x.smoke(1));
        x.pass(1);
        Check.same("coins", x.count(10), 2);
        Check.same("worms", x.stall(0, 3), 4);
        Check.same("smoke", x.smoke(0), 2);
        ChoirStalls y = Check.taught("stall s oak 1;");
        y.pass(50);
        Check.same("worms", y.stall(0, 3), 50);
        Check.refuses(y, "never a coin", NOT_NOW, () -> y.smoke(0));
        Check.same("worms behind it", y.stall(0, 3), 50);
    }

    private static void stripped() {
        ChoirStalls x = Check.taught(LIST);
        x.setDamp(8);
        x.pass(8);
        Check.rows("stall ahead", new int[] {1, 0, 24, 36, 8, 1, 24}, i -> x.stall(0, i));
        int coins = x.count(10);
        Check.same("strip", x.strip(0), 0);
        Check.rows("stall", new int[] {1, -1, 0, 36, 8, 1, 0}, i -> x.stall(0, i));
        Check.same("coins", x.count(10), coins);
        Check.same("carved in all", x.count(11), 1);
        Check.same("carved by c", x.carver(0, 4), 1);
        Check.same("day", x.count(0), 8);
        Check.same("open", x.count(12), 2);
        Check.same("none bears b", x.beast(0, 2), 0);
        Check.same("mean", x.mean(), 0.0);
        Check.same("carved again", x.pass(1), 1);
        Check.same("strip again", x.strip(0), 0);
    }

    private static void strippedBeasts() {
        ChoirStalls x = Check.taught("beast a grim 1 fine 1;beast b grim 1 fine 1;beast d grim 1 fine 1;carver c skill 9 pace 1;stall s oak 1;"
                + "stall t oak 1;stall u oak 1;carve d on s by c when day<4;carve a on t by c when day<4;carve b on u by c when day<4;");
        x.pass(3);
        Check.same("of u", x.strip(2), 1);
        Check.rows("the others stay", new int[] {2, 0, -1}, i -> x.stall(i, 1));
        Check.same("of s", x.strip(0), 2);
        Check.same("of t", x.strip(1), 0);
        Check.same("none is left", x.count(7), 0);
    }

    private static void noBeast() {
        ChoirStalls x = Check.taught(LIST);
        Check.refuses(x, "at first", NOT_NOW, () -> x.strip(0));
        x.pass(1);
        Check.refuses(x, "t", NOT_NOW, () -> x.strip(1));
        Check.same("s", x.strip(0), 0);
        Check.refuses(x, "s once more", NOT_NOW, () -> x.strip(0));
        Check.same("it is carved again", x.pass(1), 1);
        Check.same("s", x.strip(0), 0);
    }

    private static void daysOutside() {
        for (int start : new int[] {0, 4}) {
            ChoirStalls x = Check.taught(LIST);
            if (start > 0) {
                x.pass(start);
            }
            for (int days : new int[] {0, -1, -120, 121, 122, 1000, Integer.MIN_VALUE, Integer.MAX_VALUE}) {
                Check.refuses(x, "pass " + days, NOT_SO, () -> x.pass(days));
                Check.same("the day behind it", x.count(0), start);
            }
            Check.same("1 day", x.pass(1), start == 0 ? 1 : 0);
            Check.same("the day", x.count(0), start + 1);
            Check.same("120 days", x.pass(120), 0);
            Check.same("the day", x.count(0), start + 121);
        }
        ChoirStalls y = new ChoirStalls();
        Check.refuses(y, "without stalls, 0", NOT_SO, () -> y.pass(0));
        Check.refuses(y, "without stalls, 121", NOT_SO, () -> y.pass(121));
        Check.same("without stalls", y.pass(120), 0);
    }

    private static void carvedInThem() {
        // On each day b or d on s, and on t by e in each fourth.
        String list = "beast b grim 1 fine 1;beast d grim 1 fine 1;carver c skill 9 pace 1;carver e skill 9 pace 4;stall s oak 1;stall t oak 1;"
                + "carve b on s by c;carve d on s by c;carve b on t by e;carve d on t by e;";
        ChoirStalls x = Check.taught(list);
        Check.same("day 0", x.pass(1), 2);
        Check.same("days 1 to 3", x.pass(3), 3);
        Check.same("days 4 to 7", x.pass(4), 5);
        Check.same("120 days", x.pass(120), 150);
        Check.same("in all", x.count(11), 160);
        ChoirStalls y = Check.taught(list);
        for (int day = 0; day < 128; day++) {
            y.pass(1);
        }
        Check.same("day by day it is the same", y.digest(), x.digest());
        Check.same("none of what was carved before", Check.taught(LIST).pass(8) * 10 + Check.taught(LIST).pass(1), 11);
        ChoirStalls z = Check.taught(LIST);
        z.pass(1);
        Check.same("none", z.pass(100), 0);
    }

    private static void twoExceptions() {
        ChoirStalls x = Check.taught(LIST);
        Check.refuses(x, "smoke: no stall, no coin", NONE, () -> x.smoke(2));
        Check.refuses(x, "smoke: no stall, no coin", NONE, () -> x.smoke(-1));
        Check.refuses(x, "smoke: no coin", NOT_NOW, () -> x.smoke(1));
        Check.refuses(x, "strip: no stall", NONE, () -> x.strip(2));
        Check.refuses(x, "strip: no stall", NONE, () -> x.strip(-1));
        Check.refuses(x, "strip: no beast", NOT_NOW, () -> x.strip(1));
        Check.refuses(x, "foresee: days and what", NOT_SO, () -> x.foresee(0, 5));
        Check.refuses(x, "foresee: days and what", NOT_SO, () -> x.foresee(121, -1));
        Check.refuses(x, "foresee: what", NONE, () -> x.foresee(120, -1));
        Check.refuses(x, "foresee: days", NOT_SO, () -> x.foresee(121, 4));
        ChoirStalls y = new ChoirStalls();
        Check.refuses(y, "smoke without stalls", NONE, () -> y.smoke(0));
        Check.refuses(y, "strip without stalls", NONE, () -> y.strip(0));
    }
}
