/** Promise 18: what a day does. */
public final class DaysTest {
    public static void main(String[] args) {
        refused();
        carving();
        takingTurns();
        carvedOver();
        atLeastOne();
        orderOfSteps();
        oil();
        rust();
        worms();
        wormsEat();
        coins();
        Check.finish("DaysTest");
    }

    private static void refused() {
        ChoirStalls x = Check.taught("stall s oak 1;");
        for (int days : new int[] {0, -1, 121, Integer.MIN_VALUE, Integer.MAX_VALUE}) {
            Check.refuses(x, "pass " + days, IllegalArgumentException.class, () -> x.pass(days));
        }
        Check.same("pass 120", x.pass(120), 0);
        Check.same("day", x.count(0), 120);
        Check.same("pass 1", x.pass(1), 0);
        Check.same("day", x.count(0), 121);
    }

    private static void carving() {
        ChoirStalls x = Check.taught("beast b grim 1 fine 3; beast d grim 1 fine 3; carver c skill 4 pace 3 likes b;"
                + " stall s oak 3; stall t oak 3; carve b on s by c; carve d on t by c;");
        // 18 is due: 8 more in each third day for b, 4 more for d.
        int[] work = {8, 8, 8, 16, 16, 16, 0};
        for (int day = 0; day < work.length; day++) {
            Check.same("carved on day " + day, x.pass(1), day == 6 ? 1 : 0);
            Check.same("work on day " + day, x.order(0, 4), work[day]);
        }
        Check.same("quality of what is liked", x.stall(0, 2), 3 * 4 - 3 + 5);
        Check.same("no worms when carved, then those of the day", x.stall(0, 3), 1);
        Check.same("carved by c", x.carver(0, 4), 1);
        Check.same("pass", x.pass(15), 1);
        Check.same("quality", x.stall(1, 2), 3 * 4 - 3);
        Check.same("carved by c", x.carver(0, 4), 2);
        Check.same("carved in all", x.count(11), 2);
        Check.same("none open", x.count(12), 0);
    }

    private static void takingTurns() {
        // d closes the order that both have; c, who is first, works on the next only on the next day.
        ChoirStalls x = Check.taught("beast b grim 1 fine 1; carver c skill 1 pace 1; carver d skill 9 pace 1;"
                + " stall s oak 2; stall t oak 1; carve b on s by c; carve b on s by d; carve b on t by c;"
                + " carve b on t by d when bears s b;");
        Check.same("carved", x.pass(1), 1);
        Check.same("d carved", x.carver(1, 4), 1);
        Check.same("c's work stays", x.order(0, 4), 1);
        Check.same("nothing on t", x.order(2, 4), 0);
        Check.same("t is next for c", x.carver(0, 3), 2);
        Check.same("t is next for d", x.carver(1, 3), 3);
        Check.same("carved", x.pass(1), 1);
        Check.same("c had begun", x.order(2, 4), 1);
        Check.same("d was faster", x.carver(1, 4), 2);
        Check.same("quality by d", x.stall(1, 2), 27 - 1);
        x.strip(0);
        Check.same("c goes on with 1 of 4", x.pass(1), 1);
        Check.same("c's work", x.order(0, 4), 2);
        nowIsNow();
    }

    private static void nowIsNow() {
        // The work of the first is seen in the test of the second on the same day, not the other way.
        ChoirStalls x = Check.taught("beast b grim 1 fine 1; carver c skill 9 pace 1; carver d skill 9 pace 1;"
                + " stall s oak 1; stall t oak 1; stall u oak 1; carve b on s by c; carve b on t by d when bears s b;"
                + " carve b on u by c when bears t b;");
        Check.same("carved on day 0", x.pass(1), 2);
        Check.same("carved on day 1", x.pass(1), 1);
    }

    private static void carvedOver() {
        ChoirStalls x = Check.taught("beast b grim 1 fine 1; beast d grim 1 fine 2; carver c skill 5 pace 1;"
                + " stall s oak 2; carve b on s by c when day = 0 or day = 6; carve d on s by c when day > 0;");
        Check.same("b", x.pass(1), 1);
        Check.same("b", x.stall(0, 1), 0);
        Check.same("the other is open", x.order(1, 5), 1);
        Check.same("day 1", x.pass(1), 0);
        x.setDamp(9);
        Check.same("day 2", x.pass(1), 1);
        Check.same("d", x.stall(0, 1), 1);
        Check.same("worms anew", x.stall(0, 3), 4);
        Check.same("rust stays", x.stall(0, 4), 2);
        Check.same("b is not borne", x.beast(0, 2), 0);
        Check.same("d is borne", x.beast(1, 2), 1);
        x.setDamp(3);
        Check.same("until day 6", x.pass(4), 1);
        Check.same("b again", x.stall(0, 1), 0);
        Check.same("and d", x.pass(2), 1);
    }

    private static void atLeastOne() {
        ChoirStalls x = Check.taught("beast b grim 1 fine 1; carver c skill 1 pace 1; stall s oak 9; stall t oak 2;"
                + " carve b on s by c; carve b on t by c;");
        x.pass(18);
        Check.same("at least 1", x.stall(0, 2), 1);
        x.pass(4);
        Check.same("3 less 2", x.stall(1, 2), 1);
        ChoirStalls y = Check.taught("beast b grim 1 fine 1; carver c skill 3 pace 1 likes b; stall s oak 9;"
                + " carve b on s by c;");
        y.pass(3);
        Check.same("9 less 9 and 5", y.stall(0, 2), 5);
    }

    private static void orderOfSteps() {
        // Oil ahead of rust: in the end 1. Carving ahead of worms: they come on the day of carving too.
        ChoirStalls x = Check.taught("beast b grim 1 fine 1; carver c skill 9 pace 1; stall s oak 1; bishop p grim 1 from 0;"
                + " carve b on s by c; oil s when bears s b;");
        x.setDamp(8);
        Check.same("carved", x.pass(1), 1);
        Check.same("rust", x.stall(0, 4), 1);
        Check.same("worms", x.stall(0, 3), 4);
        Check.same("coins on the day of carving", x.count(10), 26 / 10);
    }

    private static void oil() {
        // The second test sees what the first order did.
        ChoirStalls x = Check.taught("stall s oak 1; stall t oak 1; stall u oak 1;"
                + " oil s when rust t >= 5; oil t when rust s = 0 and day > 2; oil u when squeaks u;");
        x.setDamp(4);
        x.pass(5);
        Check.same("rust", x.stall(1, 4), 5);
        Check.same("order 0 would", x.order(0, 5), 1);
        Check.same("order 1 would not yet", x.order(1, 5), 0);
        x.pass(1);
        Check.same("rust of s", x.stall(0, 4), 1);
        Check.same("rust of t", x.stall(1, 4), 1);
        Check.same("rust of u", x.stall(2, 4), 6);
        x.pass(2);
        Check.same("squeaks", x.stall(2, 5), 1);
        x.pass(1);
        Check.same("oiled", x.stall(2, 4), 1);
        ChoirStalls y = Check.taught("stall s oak 1; oil s;");
        y.pass(1);
        Check.same("without a test", y.stall(0, 4), 1);
        y.pass(1);
        Check.same("each day", y.stall(0, 4), 0);
    }

    private static void rust() {
        ChoirStalls x = Check.taught("stall s oak 1;");
        int[] slow = {1, 1, 1, 2, 2, 2, 3};
        for (int day = 0; day < slow.length; day++) {
            x.pass(1);
            Check.same("rust of day " + day, x.stall(0, 4), slow[day]);
        }
        x.setDamp(4);
        x.pass(4);
        Check.same("faster", x.stall(0, 4), 7);
        Check.same("no squeak", x.stall(0, 5), 0);
        x.pass(1);
        Check.same("squeak", x.stall(0, 5), 1);
        x.pass(120);
        Check.same("most", x.stall(0, 4), 20);
        Check.same("squeaking", x.count(8), 1);
    }

    private static void worms() {
        ChoirStalls x = Check.taught("stall s oak 9; stall t oak 1; stall u oak 4; stall v oak 8;");
        x.setDamp(2);
        x.pass(10);
        Check.same("s", x.stall(0, 3), 0);
        Check.same("t", x.stall(1, 3), 10);
        Check.same("u", x.stall(2, 3), 0);
        x.pass(1);
        Check.same("less than 0 never", x.stall(0, 3), 0);
        Check.same("t", x.stall(1, 3), 11);
        Check.same("u has a neighbour", x.stall(2, 3), 1);
        Check.same("v has none yet", x.stall(3, 3), 0);
        x.pass(9);
        Check.same("u", x.stall(2, 3), 10);
        Check.same("t, with u not ahead of this", x.stall(1, 3), 20);
        x.pass(1);
        Check.same("t, with u", x.stall(1, 3), 22);
        x.setDamp(9);
        x.pass(40);
        Check.same("most", x.stall(1, 3), 99);
        x.setDamp(0);
        x.pass(1);
        Check.same("oak of 1 takes none, the neighbour gives at the most", x.stall(1, 3), 99);
        ChoirStalls y = Check.taught("stall s oak 8; stall t oak 4; stall u oak 3;");
        y.setDamp(5);
        y.pass(3);
        Check.same("cut halves and quarters", y.stall(0, 3) * 100 + y.stall(1, 3) * 10 + y.stall(2, 3), 36);
        y.setDamp(1);
        y.pass(1);
        Check.same("less", y.stall(1, 3), 2);
    }

    private static void wormsEat() {
        ChoirStalls x = Check.taught("beast b grim 1 fine 1; carver c skill 2 pace 1; stall s oak 2; stall t oak 2;"
                + " carve b on s by c when day < 3;");
        x.setDamp(6);
        x.pass(2);
        Check.same("quality", x.stall(0, 2), 4);
        x.pass(6);
        Check.same("worms", x.stall(0, 3), 3 * 7 + 4);
        x.pass(1);
        Check.same("worms", x.stall(0, 3), 29);
        Check.same("not eaten yet", x.stall(0, 2), 4);
        x.pass(1);
        Check.same("eaten", x.stall(0, 2), 3);
        x.pass(2);
        Check.same("eaten", x.stall(0, 2), 1);
        x.pass(2);
        Check.same("not less than 0", x.stall(0, 2), 0);
        Check.same("none for a stall without a beast", x.stall(1, 2), 0);
        Check.same("mean of nothing", x.mean(), 0.0);
        ChoirStalls y = Check.taught("beast b grim 1 fine 1; carver c skill 2 pace 1; stall s oak 1; carve b on s by c;");
        y.pass(29);
        Check.same("worms", y.stall(0, 3), 29);
        Check.same("quality", y.stall(0, 2), 5);
        y.pass(1);
        Check.same("eaten with just 30", y.stall(0, 2), 4);
    }

    private static void coins() {
        // A quality of 26 and a beast that is 8 too grim: pleasure 10, until it squeaks.
        ChoirStalls x = Check.taught("beast b grim 9 fine 1; carver c skill 9 pace 1; stall s oak 1;"
                + " bishop p grim 1 from 3; bishop q grim 9 from 5; carve b on s by c;");
        x.pass(3);
        Check.same("none without a bishop", x.count(10), 0);
        Check.same("pleasure", x.pleasure(0), 10);
        x.pass(1);
        Check.same("1 of 10", x.count(10), 1);
        x.pass(1);
        x.pass(1);
        Check.same("2 of 26", x.count(10), 4);
        ChoirStalls y = Check.taught("beast b grim 9 fine 1; carver c skill 9 pace 1; stall s oak 2;"
                + " bishop p grim 1 from 0; carve b on s by c;");
        y.pass(10);
        Check.same("none of 9", y.count(10), 0);
        Check.same("pleasure", y.pleasure(0), 9);
        ChoirStalls z = Check.taught("beast b grim 9 fine 1; carver c skill 1 pace 1; stall s oak 1;"
                + " bishop p grim 0 from 0; carve b on s by c;");
        z.pass(30);
        Check.same("none taken", z.count(10), 0);
        Check.same("pleasure", z.pleasure(0) < -10, true);
    }
}
