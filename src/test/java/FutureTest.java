/** Promises 19 to 24: what would be. */
public final class FutureTest {
    private static final String LIST = "beast b grim 3 fine 2; beast d grim 8 fine 3; carver c skill 6 pace 1 likes d;"
            + " carver e skill 3 pace 2; stall s oak 2; stall t oak 5; stall u oak 1; bishop p grim 7 from 0;"
            + " bishop q grim 2 from 30; carve d on s by c; carve b on t by e; carve b on u by c when coins > 3;"
            + " carve d on u by e when day > 50; oil s when squeaks s; oil t when damp > 5;";

    public static void main(String[] args) {
        refused();
        until();
        foresee();
        advise();
        spare();
        mean();
        digest();
        Check.finish("FutureTest");
    }

    private static void refused() {
        ChoirStalls x = Check.taught(LIST);
        x.pass(7);
        for (int i : new int[] {-1, 3, Integer.MIN_VALUE, Integer.MAX_VALUE}) {
            Check.refuses(x, "until " + i, IndexOutOfBoundsException.class, () -> x.until(i, 0));
            Check.refuses(x, "until what " + i, IndexOutOfBoundsException.class, () -> x.until(0, i));
        }
        for (int i : new int[] {0, -1, 121, Integer.MIN_VALUE, Integer.MAX_VALUE}) {
            Check.refuses(x, "foresee " + i, IllegalArgumentException.class, () -> x.foresee(i, 0));
            Check.refuses(x, "foresee, both " + i, IllegalArgumentException.class, () -> x.foresee(i, 5));
        }
        for (int i : new int[] {-1, 5, Integer.MIN_VALUE, Integer.MAX_VALUE}) {
            Check.refuses(x, "foresee what " + i, IndexOutOfBoundsException.class, () -> x.foresee(1, i));
        }
        for (int i : new int[] {0, -1, 91, Integer.MIN_VALUE, Integer.MAX_VALUE}) {
            Check.refuses(x, "advise " + i, IllegalArgumentException.class, () -> x.advise(i));
            Check.refuses(x, "spare " + i, IllegalArgumentException.class, () -> x.spare(i));
        }
        ChoirStalls y = new ChoirStalls();
        Check.refuses(y, "until without stalls", IndexOutOfBoundsException.class, () -> y.until(0, 0));
        Check.same("the longest", y.foresee(120, 0) + y.advise(90) + y.spare(90), 0 + 9 - 1);
    }

    private static void until() {
        ChoirStalls x = Check.taught(LIST);
        for (int stall = 0; stall < 3; stall++) {
            for (int what = 0; what < 3; what++) {
                long before = x.digest();
                int days = x.until(stall, what);
                Check.same("nothing is changed", x.digest(), before);
                Check.same("until " + stall + " " + what, days, reached(stall, what));
            }
        }
        ChoirStalls y = Check.taught("beast b grim 1 fine 1; carver c skill 9 pace 1 likes b; stall s oak 1;"
                + " stall t oak 9; carve b on s by c when day >= 199; carve b on t by c when day >= 200;");
        Check.same("just within 200 days", y.until(0, 0), 200);
        Check.same("not within 200 days", y.until(1, 0), -1);
        Check.same("never", y.until(1, 2), -1);
        y.pass(120);
        y.pass(80);
        Check.same("is so now", y.until(0, 0), 0);
        Check.same("is so now", y.until(0, 1), 0);
        Check.same("1 worm a day since it was carved", y.until(0, 2), 29);
        Check.same("tomorrow", y.until(1, 0), 1);
    }

    /** The same, by living through it. */
    private static int reached(int stall, int what) {
        ChoirStalls x = Check.taught(LIST);
        for (int days = 0; days <= 200; days++) {
            boolean so = what == 0 ? x.stall(stall, 1) >= 0 : what == 1 ? x.stall(stall, 4) >= 8 : x.stall(stall, 3) >= 30;
            if (so) {
                return days;
            }
            x.pass(1);
        }
        return -1;
    }

    private static void foresee() {
        for (int days = 1; days <= 120; days += days < 5 ? 1 : 23) {
            ChoirStalls x = Check.taught(LIST);
            x.pass(9);
            x.setDamp(6);
            long before = x.digest();
            int coins = x.foresee(days, 0);
            int carved = x.foresee(days, 1);
            int squeaking = x.foresee(days, 2);
            int worms = x.foresee(days, 3);
            int pleasure = x.foresee(days, 4);
            Check.same("nothing is changed", x.digest(), before);
            int coinsBefore = x.count(10);
            Check.same("carved in " + days, x.pass(days), carved);
            Check.same("coins in " + days, x.count(10) - coinsBefore, coins);
            Check.same("squeaking behind " + days, x.count(8), squeaking);
            Check.same("worms behind " + days, x.count(9), worms);
            Check.same("pleasure behind " + days, x.pleasure(x.bishop()), pleasure);
        }
        ChoirStalls y = Check.taught("beast b grim 1 fine 1; carver c skill 9 pace 1; stall s oak 1; carve b on s by c;"
                + " bishop p grim 1 from 7;");
        Check.same("without a bishop", y.foresee(6, 4), 0);
        Check.same("the bishop of that day", y.foresee(7, 4), 26);
    }

    private static int coinsWith(int damp, int days) {
        ChoirStalls x = Check.taught(LIST);
        x.pass(5);
        x.setDamp(damp);
        return x.foresee(days, 0);
    }

    private static void advise() {
        for (int days : new int[] {1, 2, 20, 45, 90}) {
            ChoirStalls x = Check.taught(LIST);
            x.pass(5);
            long before = x.digest();
            int best = 0;
            for (int damp = 1; damp <= 9; damp++) {
                best = coinsWith(damp, days) >= coinsWith(best, days) ? damp : best;
            }
            Check.same("advise " + days, x.advise(days), best);
            Check.same("nothing is changed", x.digest(), before);
        }
        Check.same("of several the greatest", new ChoirStalls().advise(1), 9);
        ChoirStalls y = Check.taught("beast b grim 9 fine 1; carver c skill 9 pace 1; stall s oak 1;"
                + " bishop p grim 1 from 0; carve b on s by c when damp > 2 and damp < 6;");
        Check.same("damp counts in tests", y.advise(5), 5);
        ChoirStalls z = Check.taught("beast b grim 1 fine 1; carver c skill 9 pace 1; stall s oak 1;"
                + " bishop p grim 1 from 0; carve b on s by c when damp = 0;");
        Check.same("the least damp", z.advise(5), 0);
        ChoirStalls w = Check.taught("beast b grim 1 fine 1; beast d grim 9 fine 1; carver c skill 9 pace 1;"
                + " stall s oak 1; bishop p grim 1 from 0; carve d on s by c when damp = 0; carve b on s by c when damp = 4;"
                + " carve d on s by c when damp = 7;");
        Check.same("neither the first nor the last", w.advise(5), 4);
    }

    private static void spare() {
        String two = "beast b grim 3 fine 1; carver c skill 9 pace 1; carver e skill 2 pace 1; stall s oak 1;"
                + " bishop p grim 3 from 0; ";
        ChoirStalls x = Check.taught(two + "carve b on s by e; carve b on s by c when day > 5;");
        long before = x.digest();
        Check.same("without the worse one", x.spare(90), 1);
        Check.same("of several the smallest", x.spare(4), 0);
        Check.same("nothing is changed", x.digest(), before);
        Check.same("all work in the end", x.pass(1), 1);
        Check.same("e has carved", x.carver(1, 4), 1);
        Check.same("the other one", Check.taught(two + "carve b on s by c;").spare(90), 1);
        Check.same("the first one", Check.taught(two + "carve b on s by e when day = 7;").spare(90), 0);
        Check.same("the one in the middle", Check.taught("beast b grim 3 fine 1; beast d grim 9 fine 1;"
                + " carver c skill 9 pace 1; carver e skill 9 pace 1; carver f skill 9 pace 1; stall s oak 1; stall t oak 1;"
                + " stall u oak 1; bishop p grim 3 from 0; carve b on s by c; carve d on t by e; carve b on u by f;")
                .spare(9), 1);
        Check.same("without carvers", Check.taught("stall s oak 1;").spare(90), -1);
    }

    private static void mean() {
        ChoirStalls x = Check.taught("beast b grim 3 fine 1; carver c skill 5 pace 1; stall s oak 1; stall t oak 2;"
                + " stall u oak 2; stall v oak 1; carve b on s by c; carve b on t by c; carve b on u by c;");
        Check.same("none", x.mean(), 0.0);
        x.pass(1);
        Check.same("one", x.mean(), 14.0);
        x.pass(1);
        Check.same("two", x.mean(), 13.5);
        x.pass(1);
        Check.same("three", x.mean(), 40.0 / 3);
        x.strip(0);
        Check.same("without the first", x.mean(), 13.0);
    }

    private static void digest() {
        Check.same("new", new ChoirStalls().digest(), folded(new ChoirStalls()));
        // An object for each day, since one is used for at most 512 calls.
        for (int days = 1; days <= 78; days += 7) {
            ChoirStalls x = Check.taught(LIST);
            x.pass(days);
            Check.same("digest behind " + days, x.digest(), folded(x));
            x.feed(1, 2, 3, 4, 5);
            Check.same("digest with a tape", x.digest(), folded(x));
        }
    }

    private static long folded(ChoirStalls x) {
        long d = 823;
        for (int i = 0; i < 14; i++) {
            d = d * 31 + x.count(i);
        }
        for (int b = 0; b < x.count(2); b++) {
            for (int i = 0; i < 3; i++) {
                d = d * 31 + x.beast(b, i);
            }
        }
        for (int c = 0; c < x.count(3); c++) {
            for (int i = 0; i < 5; i++) {
                d = d * 31 + x.carver(c, i);
            }
        }
        for (int s = 0; s < x.count(4); s++) {
            for (int i = 0; i < 7; i++) {
                d = d * 31 + x.stall(s, i);
            }
        }
        for (int b = 0; b < x.count(5); b++) {
            d = d * 31 + x.pleasure(b);
        }
        for (int o = 0; o < x.count(6); o++) {
            for (int i = 0; i < 6; i++) {
                d = d * 31 + x.order(o, i);
            }
        }
        return d;
    }
}
