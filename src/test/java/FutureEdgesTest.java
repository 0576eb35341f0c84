/** Edges of promises 19 to 24: what would be. */
public final class FutureEdgesTest {
    private static final Class<IndexOutOfBoundsException> NONE = IndexOutOfBoundsException.class;
    private static final Class<IllegalArgumentException> NOT_SO = IllegalArgumentException.class;

    private static final String HEAD = "beast b grim 4 fine 1;beast d grim 4 fine 1;carver c skill 9 pace 1;stall s oak 1;stall t oak 9;";

    public static void main(String[] args) {
        Check.sentence("Promise 19", "Throws IndexOutOfBoundsException if there is no such stall, or what is not 0 to 2",
                FutureEdgesTest::untilOutside);
        Check.sentence("Promise 19", "0 if now", FutureEdgesTest::untilNow);
        String most = "at most 200; -1 if not by then";
        Check.sentence("Promise 19", most, FutureEdgesTest::untilABeast);
        Check.sentence("Promise 19", most, FutureEdgesTest::untilASqueak);
        Check.sentence("Promise 19", most, FutureEdgesTest::untilThirtyWorms);
        Check.sentence("Promise 19", most, FutureEdgesTest::untilFromALaterDay);
        Check.sentence("Promise 19", "0 it bears a beast, 1 it squeaks, 2 it has 30 worms or more", FutureEdgesTest::untilEach);
        Check.sentence("Promise 19", "(nothing is changed)", FutureEdgesTest::untilChangesNothing);
        Check.sentence("Promise 20", "Throws IllegalArgumentException if days is not 1 to 120", FutureEdgesTest::foreseeOutside);
        Check.sentence("Promise 20", "Throws IndexOutOfBoundsException if what is not 0 to 4", FutureEdgesTest::foreseeWhat);
        Check.sentence("Promise 20", "0 coins that come in, 1 beasts that are carved in them, 2 stalls that squeak then,"
                + " 3 all worms then", FutureEdgesTest::foreseeEach);
        Check.sentence("Promise 20", "how many, 1 to 120", FutureEdgesTest::foreseeTheLastDay);
        Check.sentence("Promise 20", "4 the pleasure of the bishop of that day then, 0 without one", FutureEdgesTest::foreseeBishop);
        Check.sentence("Promise 20", "(nothing is changed)", FutureEdgesTest::foreseeChangesNothing);
        Check.sentence("Promise 21", "Throws IllegalArgumentException if days is not 1 to 90",
                () -> daysOutside("advise", ChoirStalls::advise));
        Check.sentence("Promise 21", "Returns this, 0 to 9, of several the greatest (nothing is changed).", FutureEdgesTest::adviseSeveral);
        Check.sentence("Promise 21", "Returns this, 0 to 9", FutureEdgesTest::adviseEach);
        Check.sentence("Promise 21", "within so many days", FutureEdgesTest::adviseTheLastDay);
        Check.sentence("Promise 21", "if it is the damp from now on", FutureEdgesTest::adviseFromNowOn);
        Check.sentence("Promise 22", "Throws IllegalArgumentException if days is not 1 to 90",
                () -> daysOutside("spare", ChoirStalls::spare));
        Check.sentence("Promise 22", "of several the one with the smallest number", FutureEdgesTest::spareSeveral);
        Check.sentence("Promise 22", "-1 without carvers", FutureEdgesTest::spareWithoutCarvers);
        Check.sentence("Promise 22", "the carver without whom the most coins come in", FutureEdgesTest::spareEach);
        Check.sentence("Promise 22", "within so many days", FutureEdgesTest::spareTheLastDay);
        Check.sentence("Promise 22", "(nothing is changed)", FutureEdgesTest::spareChangesNothing);
        Check.sentence("Promise 23", "Returns the mean quality of all stalls that bear a beast; 0 without any.", FutureEdgesTest::meanOfNone);
        Check.sentence("Promise 23", "the mean quality of all stalls that bear a beast", FutureEdgesTest::meanOfAll);
        Check.sentence("Promise 24", "A number d starts with 823", FutureEdgesTest::digestOfNothing);
        Check.sentence("Promise 24", "which wraps around as a 64-bit integer", FutureEdgesTest::digestWraps);
        Check.sentence("Promise 24", "what count() tells; for each beast what beast() tells; for each carver what carver() tells;"
                + " for each stall what stall() tells; for each bishop the pleasure; for each order what order() tells"
                + " (all in their order)", FutureEdgesTest::digestOfAll);
        Check.finish("FutureEdgesTest");
    }

    private static void untilOutside() {
        for (int days : new int[] {0, 9}) {
            ChoirStalls x = Check.taught(HEAD);
            if (days > 0) {
                x.pass(days);
            }
            for (int wrong : new int[] {-1, -2, 3, 4, Integer.MIN_VALUE, Integer.MAX_VALUE}) {
                Check.refuses(x, "until of stall " + wrong, NONE, () -> x.until(wrong, 0));
                Check.refuses(x, "until what " + wrong, NONE, () -> x.until(0, wrong));
                Check.refuses(x, "until what " + wrong + " of the last", NONE, () -> x.until(1, wrong));
                Check.refuses(x, "both " + wrong, NONE, () -> x.until(wrong, wrong));
            }
            Check.refuses(x, "until of stall 2", NONE, () -> x.until(2, 1));
            Check.same("the last of both", x.until(1, 2), -1);
        }
        ChoirStalls y = new ChoirStalls();
        Check.refuses(y, "without stalls", NONE, () -> y.until(0, 1));
    }

    private static void untilNow() {
        ChoirStalls x = Check.taught(HEAD + "carve b on s by c;");
        x.setDamp(4);
        Check.rows("of s", new int[] {1, 8, 15}, i -> x.until(0, i));
        x.pass(1);
        Check.rows("of s, behind a day", new int[] {0, 7, 14}, i -> x.until(0, i));
        x.pass(7);
        Check.rows("of s, behind 8", new int[] {0, 0, 7}, i -> x.until(0, i));
        x.pass(6);
        Check.rows("of s, behind 14", new int[] {0, 0, 1}, i -> x.until(0, i));
        x.pass(1);
        Check.rows("of s, behind 15", new int[] {0, 0, 0}, i -> x.until(0, i));
        x.strip(0);
        x.oil(0);
        Check.rows("stripped and oiled", new int[] {1, 8, 0}, i -> x.until(0, i));
    }

    private static void untilABeast() {
        for (int day = 197; day <= 202; day++) {
            ChoirStalls x = Check.taught(HEAD + "carve b on s by c when day=" + day + ";");
            Check.same("carved on day " + day, x.until(0, 0), day <= 199 ? day + 1 : -1);
        }
        Check.same("never", Check.taught(HEAD).until(0, 0), -1);
    }

    private static void untilASqueak() {
        // The last oil on the day ahead of this one leaves a rust of 1; 7 days more bring 8.
        for (int day = 191; day <= 195; day++) {
            ChoirStalls x = Check.taught(HEAD + "oil s when day<" + day + ";");
            x.setDamp(4);
            Check.same("oiled till day " + day, x.until(0, 1), day <= 193 ? day + 7 : -1);
        }
        ChoirStalls y = Check.taught(HEAD + "oil s;");
        Check.same("never", y.until(0, 1), -1);
    }

    private static void untilThirtyWorms() {
        // Carved anew on each day ahead of this one, which leaves 1 worm; 29 days more bring 30.
        for (int day = 169; day <= 173; day++) {
            ChoirStalls x = Check.taught(HEAD + "carve b on s by c when day<" + day + ";carve d on s by c when day<" + day + ";");
            Check.same("carved till day " + day, x.until(0, 2), day <= 171 ? day + 29 : -1);
        }
        ChoirStalls y = Check.taught(HEAD);
        y.setDamp(1);
        Check.same("never", y.until(0, 2), -1);
    }

    private static void untilFromALaterDay() {
        for (int day = 258; day <= 262; day++) {
            ChoirStalls x = Check.taught(HEAD + "carve b on s by c when day=" + day + ";");
            x.pass(60);
            Check.same("on day 60, carved on day " + day, x.until(0, 0), day <= 259 ? day - 59 : -1);
            x.pass(120);
            Check.same("on day 180", x.until(0, 0), day - 179);
        }
    }

    private static void untilEach() {
        ChoirStalls x = Check.taught(HEAD + "carve b on t by c;");
        x.setDamp(9);
        // s: 4 worms a day, t: 2 a day, and 1 more behind the third; t is carved on the second day.
        Check.same("t is carved", x.until(1, 0), 2);
        Check.same("s is not", x.until(0, 0), -1);
        Check.rows("both squeak", new int[] {8, 8}, i -> x.until(i, 1));
        int[][] worms = new int[2][20];
        ChoirStalls y = Check.taught(HEAD + "carve b on t by c;");
        y.setDamp(9);
        for (int day = 0; day < 20; day++) {
            worms[0][day] = y.stall(0, 3);
            worms[1][day] = y.stall(1, 3);
            y.pass(1);
        }
        for (int stall = 0; stall < 2; stall++) {
            int days = x.until(stall, 2);
            Check.same("30 worms on " + stall, days > 0 && days < 20, true);
            Check.same("30 then", worms[stall][days] >= 30, true);
            Check.same("not a day ahead", worms[stall][days - 1] < 30, true);
        }
    }

    private static final String RICH = HEAD + "beast m grim 9 fine 3;carver e skill 5 pace 2 likes m;stall u oak 4;bishop p grim 3 from 0;"
            + "bishop q grim 8 from 20;carve b on s by c when worms s<50;carve m on u by e;carve m on t by c when coins>4;"
            + "oil s when squeaks s;oil t when rust t>4 and day>9 or damp>7;";

    private interface Asked {
        int of(ChoirStalls x, int i);
    }

    /** Asked on several days and with several damps, all stays, and goes on as if never asked. */
    private static void changesNothing(String what, int end, Asked asked) {
        for (int days : new int[] {1, 13, 60}) {
            for (int i = 0; i < end; i++) {
                ChoirStalls x = Check.taught(RICH);
                ChoirStalls y = Check.taught(RICH);
                for (ChoirStalls z : new ChoirStalls[] {x, y}) {
                    z.setDamp(days % 10);
                    z.pass(days);
                    Check.write(z, "stall a oak 1;oil b;");
                }
                asked.of(x, i);
                asked.of(x, i);
                Check.alike(what + " " + i + " on day " + days, x, y);
            }
        }
    }

    private static void untilChangesNothing() {
        changesNothing("until", 9, (x, i) -> x.until(i / 3, i % 3));
    }

    private static void foreseeOutside() {
        ChoirStalls x = Check.taught(RICH);
        for (int days : new int[] {0, -1, 121, 122, 200, Integer.MIN_VALUE, Integer.MAX_VALUE}) {
            for (int what = -1; what <= 5; what++) {
                int asked = what;
                Check.refuses(x, "foresee " + days + " " + what, NOT_SO, () -> x.foresee(days, asked));
            }
        }
        for (int what = 0; what < 5; what++) {
            int asked = what;
            Check.same("1 day", Check.answerOf(() -> x.foresee(1, asked)) instanceof Integer, true);
            Check.same("120 days", Check.answerOf(() -> x.foresee(120, asked)) instanceof Integer, true);
        }
    }

    private static void foreseeWhat() {
        ChoirStalls x = Check.taught(RICH);
        for (int what : new int[] {-1, -2, 5, 6, Integer.MIN_VALUE, Integer.MAX_VALUE}) {
            for (int days : new int[] {1, 60, 120}) {
                Check.refuses(x, "foresee " + days + " " + what, NONE, () -> x.foresee(days, what));
            }
            Check.refuses(x, "foresee 0 " + what, NOT_SO, () -> x.foresee(0, what));
            Check.refuses(x, "foresee 121 " + what, NOT_SO, () -> x.foresee(121, what));
        }
    }

    private static void foreseeEach() {
        for (int start : new int[] {1, 30}) {
            for (int days : new int[] {1, 2, 3, 7, 8, 9, 29, 30, 31, 119, 120}) {
                ChoirStalls x = Check.taught(RICH);
                x.setDamp(start == 1 ? 6 : 3);
                x.pass(start);
                int[] seen = new int[5];
                for (int what = 0; what < 5; what++) {
                    seen[what] = x.foresee(days, what);
                }
                int coins = x.count(10);
                int carved = x.pass(days);
                String behind = " behind " + days + " from " + start;
                Check.same("coins" + behind, seen[0], x.count(10) - coins);
                Check.same("carved" + behind, seen[1], carved);
                Check.same("squeaking" + behind, seen[2], x.count(8));
                Check.same("worms" + behind, seen[3], x.count(9));
                Check.same("pleasure" + behind, seen[4], x.pleasure(x.bishop()));
            }
        }
    }

    private static void foreseeTheLastDay() {
        ChoirStalls x = Check.taught(HEAD + "bishop p grim 4 from 119;carve b on s by c when day=119;");
        x.setDamp(0);
        Check.same("coins of 119 days", x.foresee(119, 0), 0);
        Check.same("coins of 120 days: 26 less two squeaks", x.foresee(120, 0), 2);
        Check.same("carved in 119 days", x.foresee(119, 1), 0);
        Check.same("carved in 120 days", x.foresee(120, 1), 1);
        ChoirStalls y = Check.taught(HEAD + "bishop p grim 4 from 0;carve b on s by c when day=0;");
        y.setDamp(4);
        Check.same("coins of 1 day", y.foresee(1, 0), 2);
        Check.same("carved in 1 day", y.foresee(1, 1), 1);
        Check.same("squeaking behind 7", y.foresee(7, 2), 0);
        Check.same("squeaking behind 8", y.foresee(8, 2), 2);
        Check.same("worms behind 1", y.foresee(1, 3), 2);
        y.pass(1);
        Check.same("coins of 1 day more", y.foresee(1, 0), 2);
        Check.same("none is carved any more", y.foresee(120, 1), 0);
    }

    private static void foreseeBishop() {
        ChoirStalls x = Check.taught(HEAD + "bishop p grim 4 from 3;bishop q grim 9 from 5;carve b on s by c;");
        x.setDamp(0);
        Check.same("without one", x.foresee(2, 4), 0);
        Check.same("the first, from its first day", x.foresee(3, 4), 26);
        Check.same("the first, to its last day", x.foresee(4, 4), 26);
        Check.same("the second", x.foresee(5, 4), 16);
        Check.same("the second, much later: two squeak", x.foresee(120, 4), 10);
        ChoirStalls y = Check.taught("stall s oak 1;bishop p grim 0 from 0;");
        y.setDamp(4);
        Check.same("a squeak comes", y.foresee(8, 4), -3);
        Check.same("it is not here yet", y.foresee(7, 4), 0);
        Check.same("without bishops", Check.taught("stall s oak 1;").foresee(120, 4), 0);
    }

    private static void foreseeChangesNothing() {
        changesNothing("foresee 1", 5, (x, i) -> x.foresee(1, i));
        changesNothing("foresee 120", 5, (x, i) -> x.foresee(120, i));
    }

    private static void daysOutside(String what, Asked asked) {
        for (String list : new String[] {"", RICH}) {
            ChoirStalls x = Check.taught(list);
            for (int days : new int[] {0, -1, -90, 91, 92, 120, Integer.MIN_VALUE, Integer.MAX_VALUE}) {
                Check.refuses(x, what + " " + days, NOT_SO, () -> asked.of(x, days));
            }
            Check.same(what + " 1", Check.answerOf(() -> asked.of(x, 1)) instanceof Integer, true);
            Check.same(what + " 90", Check.answerOf(() -> asked.of(x, 90)) instanceof Integer, true);
        }
    }

    private static void adviseSeveral() {
        Check.same("nothing is told", new ChoirStalls().advise(1), 9);
        Check.same("no coins come in", Check.taught(HEAD).advise(90), 9);
        for (int least = 0; least <= 9; least++) {
            // The same coins with each damp from the least to the most.
            for (int most = least; most <= 9; most++) {
                ChoirStalls x = Check.taught(HEAD + "bishop p grim 4 from 0;carve b on s by c when damp>=" + least + " and damp<=" + most + ";");
                Check.same("alike from " + least + " to " + most, x.advise(3), most);
            }
        }
        Check.same("no damp beyond them is tried", Check.taught(HEAD + "bishop p grim 4 from 0;carve b on s by c when damp<0 or damp>9;")
                .advise(5), 9);
        changesNothing("advise", 3, (x, i) -> x.advise(i * 44 + 1));
    }

    private static void adviseEach() {
        // b is carved with one damp only; else d, which gives less.
        for (int damp = 0; damp <= 9; damp++) {
            ChoirStalls x = Check.taught("beast b grim 4 fine 1;beast d grim 9 fine 1;carver c skill 9 pace 1;stall s oak 1;"
                    + "bishop p grim 4 from 0;carve b on s by c when damp=" + damp + ";carve d on s by c when not damp=" + damp + ";");
            for (int now = 0; now <= 9; now += 3) {
                x.setDamp(now);
                Check.same("by a damp of " + now, x.advise(5), damp);
                Check.same("the damp stays", x.count(1), now);
            }
        }
    }

    private static void adviseTheLastDay() {
        ChoirStalls x = Check.taught(HEAD + "bishop p grim 4 from 89;carve b on s by c when damp=0;");
        Check.same("no coin in 89 days", x.advise(89), 9);
        Check.same("some on the 90th", x.advise(90), 0);
        ChoirStalls y = Check.taught(HEAD + "bishop p grim 4 from 0;carve b on s by c when damp=4;");
        Check.same("on the only day", y.advise(1), 4);
    }

    private static void adviseFromNowOn() {
        // What was rusted and carved till now counts; the damp till now does not.
        ChoirStalls x = Check.taught(HEAD + "bishop p grim 4 from 0;carve b on s by c when damp=9 and day=0;");
        x.setDamp(9);
        x.pass(1);
        Check.same("pleasure", x.pleasure(0), 26);
        // With 4 and more there are squeaks and worms earlier; with 0 to 3 rust is as slow, with 0 and 1 no worms come.
        Check.same("within 10 days nothing falls below 20", x.advise(5), 9);
        int best = 0;
        for (int damp = 1; damp <= 9; damp++) {
            ChoirStalls y = Check.taught(HEAD + "bishop p grim 4 from 0;carve b on s by c when damp=9 and day=0;");
            y.setDamp(9);
            y.pass(1);
            y.setDamp(damp);
            int coins = y.foresee(60, 0);
            y.setDamp(best);
            best = coins >= y.foresee(60, 0) ? damp : best;
        }
        Check.same("the best of 60 days", x.advise(60), best);
        Check.same("which is a dry one", best < 4, true);
    }

    /** Three carvers, each with a stall: what the good ones carve pleases p by 26, what the others do by -11. */
    private static String carvers(boolean c, boolean e, boolean f) {
        String good = " skill 9 pace 1;";
        String bad = " skill 1 pace 1 likes d;";
        return "beast b grim 0 fine 1;beast d grim 9 fine 1;carver c" + (c ? good : bad) + "carver e" + (e ? good : bad) + "carver f"
                + (f ? good : bad) + "stall s oak 1;stall t oak 1;stall u oak 1;bishop p grim 0 from 0;carve " + (c ? "b" : "d")
                + " on s by c;carve " + (e ? "b" : "d") + " on t by e;carve " + (f ? "b" : "d") + " on u by f;";
    }

    private static void spareSeveral() {
        Check.same("none earns", Check.taught("carver c skill 1 pace 1;carver e skill 1 pace 1;").spare(90), 0);
        Check.same("alone", Check.taught("carver c skill 1 pace 1;").spare(1), 0);
        String list = "beast b grim 4 fine 1;carver c skill 9 pace 1;carver e skill 9 pace 1;carver f skill 9 pace 1;carver g skill 9 pace 1;"
                + "carver h skill 9 pace 1;stall s oak 1;bishop p grim 4 from 0;carve b on s by #;";
        Check.same("all but the first can be spared", Check.taught(list.replace("#", "c")).spare(9), 1);
        for (String carver : new String[] {"e", "f", "g", "h"}) {
            Check.same("all but " + carver + " can be spared", Check.taught(list.replace("#", carver)).spare(9), 0);
        }
        ChoirStalls x = Check.taught(list.replace("#;", "c;carve b on s by e;carve b on s by f;"));
        Check.same("each can be replaced", x.spare(9), 0);
        // Only h has carved, and has nothing left to do: none of them matters any more.
        ChoirStalls y = Check.taught(list.replace("#", "h"));
        y.pass(1);
        Check.same("what was carved ahead of it does not count", y.spare(9), 0);
        Check.same("h has carved", y.carver(4, 4), 1);
    }

    private static void spareWithoutCarvers() {
        Check.same("a new object", new ChoirStalls().spare(1), -1);
        Check.same("no carvers", Check.taught("beast b grim 1 fine 1;stall s oak 1;bishop p grim 1 from 0;").spare(90), -1);
        ChoirStalls x = Check.taught("carver c skill 1 pace 1;");
        Check.same("one", x.spare(90), 0);
        x.teach();
        Check.same("none any more", x.spare(90), -1);
        Check.refuses(x, "no carvers, and no such days", NOT_SO, () -> x.spare(91));
        Check.refuses(x, "no carvers, and no such days", NOT_SO, () -> x.spare(0));
    }

    private static void spareEach() {
        Check.same("the first is bad", Check.taught(carvers(false, true, true)).spare(90), 0);
        Check.same("the second is bad", Check.taught(carvers(true, false, true)).spare(90), 1);
        Check.same("the third is bad", Check.taught(carvers(true, true, false)).spare(90), 2);
        Check.same("all are good", Check.taught(carvers(true, true, true)).spare(90), 0);
        Check.same("the third is less good", Check.taught(carvers(true, true, true).replace("f skill 9", "f skill 4")).spare(90), 2);
        Check.same("the second is less good", Check.taught(carvers(true, true, true).replace("e skill 9", "e skill 4")).spare(90), 1);
        ChoirStalls last = Check.taught("beast b grim 0 fine 1;beast d grim 9 fine 1;carver c skill 9 pace 1;carver e skill 9 pace 1;"
                + "carver f skill 9 pace 1;carver g skill 9 pace 1;carver h skill 1 pace 1;stall s oak 1;stall t oak 1;bishop p grim 0 from 0;"
                + "carve b on s by c;carve d on t by h;");
        Check.same("the fifth is bad", last.spare(90), 4);
        // What e carved till now stays; all that he would carve from now on is spared.
        ChoirStalls x = Check.taught(carvers(true, false, true));
        x.pass(2);
        Check.same("it is too late to spare e", x.spare(90), 0);
        Check.same("e works all the same", x.carver(1, 4), 1);
        ChoirStalls y = Check.taught(carvers(true, false, true));
        Check.same("e is spared in thought only", y.spare(90) * 100 + y.pass(1) * 10 + y.carver(1, 4), 131);
    }

    private static void spareTheLastDay() {
        ChoirStalls x = Check.taught(carvers(true, false, true).replace("from 0", "from 89"));
        x.setDamp(0);
        Check.same("no coin in 89 days", x.spare(89), 0);
        Check.same("some on the 90th", x.spare(90), 1);
        Check.same("on the only day", Check.taught(carvers(true, false, true)).spare(1), 1);
    }

    private static void spareChangesNothing() {
        changesNothing("spare", 3, (x, i) -> x.spare(i * 44 + 1));
    }

    private static void meanOfNone() {
        Check.same("a new object", new ChoirStalls().mean(), 0.0);
        ChoirStalls x = Check.taught(HEAD + "carve b on s by c;");
        Check.same("none bears one", x.mean(), 0.0);
        x.pass(1);
        Check.same("one", x.mean(), 26.0);
        x.strip(0);
        Check.same("none again", x.mean(), 0.0);
        ChoirStalls z = Check.taught(HEAD + "carve d on s by c;carve b on t by c;");
        z.pass(1);
        Check.same("the second beast", z.mean(), 26.0);
        z.pass(2);
        Check.same("both", z.mean(), 22.0);
        z.strip(1);
        Check.same("the second beast again", z.mean(), 26.0);
        // A beast that worms have eaten up counts, with 0.
        ChoirStalls y = Check.taught("beast b grim 4 fine 1;carver c skill 1 pace 1;carver e skill 9 pace 1;stall s oak 1;stall t oak 9;"
                + "stall u oak 9;carve b on s by c;carve b on u by e when day>99;");
        y.setDamp(8);
        y.pass(60);
        Check.same("quality", y.stall(0, 2), 0);
        Check.same("one of no quality", y.mean(), 0.0);
        y.setDamp(0);
        y.pass(41);
        Check.same("quality of u", y.stall(2, 2), 0);
        y.pass(1);
        Check.same("two, one of no quality", y.mean(), y.stall(2, 2) / 2.0);
        Check.same("quality of u", y.stall(2, 2) > 10, true);
    }

    private static void meanOfAll() {
        StringBuilder all = new StringBuilder("beast b grim 4 fine 1;carver c skill 9 pace 1 likes b;");
        for (int i = 0; i < 10; i++) {
            all.append("stall s").append(i).append(" oak ").append(i % 9 + 1).append(";carve b on s").append(i).append(" by c;");
        }
        ChoirStalls x = Check.taught(all.toString());
        x.setDamp(0);
        int sum = 0;
        for (int stalls = 1; stalls <= 10; stalls++) {
            Check.same("carved", x.pass(1), 1);
            sum += 32 - ((stalls - 1) % 9 + 1);
            Check.same("mean of " + stalls, x.mean(), (double) sum / stalls);
        }
        Check.same("all ten: 27.4", x.mean(), 27.4);
        x.strip(0);
        Check.same("nine", x.mean(), (double) (sum - 31) / 9);
    }

    /** d, folded by numbers without a bound. */
    private static long folded(int... numbers) {
        java.math.BigInteger d = java.math.BigInteger.valueOf(823);
        for (int x : numbers) {
            d = d.multiply(java.math.BigInteger.valueOf(31)).add(java.math.BigInteger.valueOf(x));
        }
        return d.longValue();
    }

    private static void digestOfNothing() {
        Check.same("a new object", new ChoirStalls().digest(), folded(0, 3, 0, 0, 0, 0, 0, 0, 0, 0, 0, 0, 0, 0));
        ChoirStalls x = new ChoirStalls();
        x.pass(7);
        x.setDamp(9);
        x.feed(1, 2, 3, 4, 5);
        Check.same("a day, a damp, a tape", x.digest(), folded(7, 9, 0, 0, 0, 0, 0, 0, 0, 0, 0, 0, 0, 20));
    }

    private static void digestWraps() {
        // 823 * 31^14 + 3 * 31^12, in 64 bits.
        java.math.BigInteger d = java.math.BigInteger.valueOf(31).pow(12).multiply(java.math.BigInteger.valueOf(823L * 961 + 3));
        Check.same("more than 64 bits", d.bitLength() > 64, true);
        Check.same("it wraps", new ChoirStalls().digest(), d.longValue());
        ChoirStalls x = new ChoirStalls();
        boolean negative = false;
        boolean positive = false;
        for (int day = 0; day < 200; day++) {
            long digest = x.digest();
            negative |= digest < 0;
            positive |= digest > 0;
            x.pass(1);
        }
        Check.same("to both sides of 0", negative && positive, true);
    }

    private static void digestOfAll() {
        ChoirStalls x = Check.taught("beast b grim 4 fine 1;beast d grim 9 fine 2;carver c skill 9 pace 1 likes d;stall s oak 1;"
                + "stall t oak 9;bishop p grim 4 from 0;bishop q grim 0 from 9;carve b on s by c;oil t;carve d on t by c when day>5;");
        Check.same("at first", x.digest(), folded(0, 3, 2, 1, 2, 2, 3, 0, 0, 0, 0, 0, 2, 0, 4, 1, 0, 9, 2, 0, 9, 1, 1, 0, 0,
                1, -1, 0, 0, 0, 0, 0, 9, -1, 0, 0, 0, 0, 0, 0, 0, 0, 0, 0, 0, 0, 1, 1, 1, -1, -1, 0, 1, 0, 1, 1, 0, 0, 0));
        x.setDamp(4);
        x.pass(8);
        // 2 coins a day, 3 on the last; 16 worms on s, and a squeak; d is carved on t on day 7, with 36 of work: 27 - 9 + 5.
        Check.same("behind 8 days", x.digest(), folded(8, 4, 2, 1, 2, 2, 3, 2, 1, 17, 17, 2, 0, 0, 4, 1, 1, 9, 2, 1, 9, 1, 1, -1, 2,
                1, 0, 26, 16, 8, 1, 26, 9, 1, 23, 1, 1, 0, 13, 36, 20, 0, 0, 0, 0, 0, 0, 1, 1, -1, -1, 0, 1, 0, 1, 1, 0, 0, 0));
    }
}
