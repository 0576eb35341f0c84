/** Edges of what tests and sums answer: 'Terms' on numbers, '2. The choir' on what a test reads. */
public final class ReckoningEdgesTest {
    // Both are told without a wrap, so that each test wraps where it says and nowhere else.
    private static final String MAX = "(21474*100000+83647)";
    private static final String MIN = "(-(21474*100000+83647)-1)";

    private static final String BASE = "beast b grim 1 fine 1; carver c skill 9 pace 1; stall s oak 1; stall t oak 9; ";

    public static void main(String[] args) {
        String wrap = "sums, differences and products of the language wrap around in 32 bits";
        Check.sentence("Terms", wrap, ReckoningEdgesTest::sums);
        Check.sentence("Terms", wrap, ReckoningEdgesTest::differences);
        Check.sentence("Terms", wrap, ReckoningEdgesTest::turned);
        Check.sentence("Terms", wrap, ReckoningEdgesTest::products);
        Check.sentence("Terms", wrap, ReckoningEdgesTest::eachStepWraps);
        Check.sentence("Terms", wrap, ReckoningEdgesTest::theWidestApart);
        Check.sentence("Terms", "All numbers are whole", ReckoningEdgesTest::whole);
        Check.sentence("Terms", "/ is cut towards 0", ReckoningEdgesTest::cut);
        Check.sentence("Terms", "gives 0 with 0 on the right side", ReckoningEdgesTest::dividedByNothing);
        Check.sentence("Terms", "-2147483648 / -1 gives -2147483648", ReckoningEdgesTest::leastByMinusOne);
        Check.sentence("Language, test", "sum ( \"<\" | \">\" | \"=\" | \"<=\" | \">=\" ) sum", ReckoningEdgesTest::comparisons);
        Check.sentence("Language, value", "( \"min\" | \"max\" ) \"(\" sum \",\" sum \")\"", ReckoningEdgesTest::choices);
        Check.sentence("Language, sum", "sum = product { ( \"+\" | \"-\" ) product }", ReckoningEdgesTest::chains);
        Check.sentence("Language, value", "\"-\" value", ReckoningEdgesTest::minusInFront);
        Check.sentence("Choir, tests", "and binds more than or, not more than and", ReckoningEdgesTest::binding);
        Check.sentence("Choir, tests", "and binds more than or, not more than and", ReckoningEdgesTest::eachSingleJoined);
        Check.sentence("Choir, tests", "Both sides of and and or are reckoned", ReckoningEdgesTest::bothSides);
        Check.sentence("Choir, tests", "In tests and sums day is the day, damp the damp, coins the coins,"
                + " quality, worms and rust those of a stall", ReckoningEdgesTest::atFirst);
        Check.sentence("Choir, tests", "day is the day", ReckoningEdgesTest::dayByDay);
        Check.sentence("Choir, tests", "damp the damp", ReckoningEdgesTest::eachDamp);
        Check.sentence("Choir, tests", "coins the coins, quality, worms and rust those of a stall", ReckoningEdgesTest::onTheWay);
        Check.sentence("Choir, tests", "bears holds, if the stall bears the beast", ReckoningEdgesTest::bearing);
        Check.sentence("Choir, tests", "squeaks, if the stall squeaks", ReckoningEdgesTest::squeaking);
        Check.finish("ReckoningEdgesTest");
    }

    private static void due(String test, int due) {
        Check.same(test, Check.taught(BASE + "oil s when " + test + ";").order(0, 5), due);
    }

    /** They hold, on the first day. */
    private static void hold(String... tests) {
        for (String test : tests) {
            due(test, 1);
        }
    }

    private static void holdNot(String... tests) {
        for (String test : tests) {
            due(test, 0);
        }
    }

    private static void sums() {
        hold(MAX + "-1+1=" + MAX, MAX + "+0=" + MAX, MAX + ">0", MAX + "+1=" + MIN, MAX + "+1<0", MAX + "+" + MAX + "=-2");
        hold(MIN + "+0=" + MIN, MIN + "<0", MIN + "+-1=" + MAX, MIN + "+-1>0", MIN + "+" + MIN + "=0");
        hold(MIN + "+" + MAX + "=-1");
    }

    private static void differences() {
        hold(MIN + "+1-1=" + MIN, MIN + "-0=" + MIN, MIN + "-1=" + MAX, MIN + "-1>0", MIN + "-" + MAX + "=1");
        hold(MAX + "-0=" + MAX, MAX + "--1=" + MIN, MAX + "--1<0", MAX + "-" + MIN + "=-1", "0-" + MIN + "=" + MIN);
        hold("-1-" + MIN + "=" + MAX, "-1-" + MAX + "=" + MIN, "-2-" + MAX + "=" + MAX);
    }

    private static void turned() {
        hold("-" + MIN + "=" + MIN, "-" + MIN + "<0", "-" + MAX + "=" + MIN + "+1", "-" + MAX + "<0", "--" + MIN + "=" + MIN);
    }

    private static void products() {
        hold("46340*46340=21473*100000+95600", "46341*46341=-(21474*100000+79015)", "46341*46341<0");
        hold("-46341*46341=21474*100000+79015", "65536*32767=" + MAX + "-65535", "65536*32768=" + MIN, "65536*-32768=" + MIN);
        hold("65536*-32769=" + MAX + "-65535", "65536*65536=0", "65536*65535=-65536", MIN + "*-1=" + MIN, MIN + "*2=0");
        hold(MAX + "*2=-2", MAX + "*" + MAX + "=1", MAX + "*-1=" + MIN + "+1", "999999*999999=-(7293*100000+79967)");
    }

    private static void eachStepWraps() {
        hold("(" + MAX + "+1)/2=-(10737*100000+41824)", "(" + MAX + "+" + MAX + ")/2=-1", "65536*65536/65536=0");
        hold("(" + MIN + "-1)/2=10737*100000+41823", "65536*32768/2<0", "min(" + MAX + "+1,0)=" + MIN, "-" + MIN + "/2<0");
        hold("max(" + MIN + "-1,0)=" + MAX);
    }

    private static void theWidestApart() {
        hold(MIN + "<" + MAX, MIN + "<=" + MAX, MAX + ">" + MIN, MAX + ">=" + MIN, MIN + "<1", MAX + ">-2");
        holdNot(MIN + ">" + MAX, MIN + ">=" + MAX, MIN + "=" + MAX, MAX + "<" + MIN, MAX + "<=" + MIN, MIN + ">1", MAX + "<-2");
        hold("max(" + MIN + "," + MAX + ")=" + MAX, "min(" + MIN + "," + MAX + ")=" + MIN);
        hold("max(" + MIN + ",1)=1", "min(" + MAX + ",-2)=-2");
    }

    private static void whole() {
        hold("1/2=0", "1/2*2=0", "7/2*2=6", "7*2/2=7", "1/2+1/2=0", "2/2=1", "3/2<2");
    }

    private static void cut() {
        hold("7/2=3", "-7/2=-3", "7/-2=-3", "-7/-2=3", "-1/2=0", "1/-2=0", "-1/-2=0", "1/-1=-1", "-2/2=-1", "-3/2=-1");
        hold("8/9=0", "9/9=1", "-8/9=0", "-9/9=-1", "-17/9=-1", "-18/9=-2", MIN + "/2=-(10737*100000+41824)");
        hold(MAX + "/-1=" + MIN + "+1", MIN + "/1=" + MIN, MAX + "/" + MIN + "=0", MIN + "/" + MAX + "=-1", MAX + "/1=" + MAX);
    }

    private static void dividedByNothing() {
        hold("5/0=0", "0/0=0", "-5/0=0", "1/0=0", MAX + "/0=0", MIN + "/0=0", "0/5=0", "6/coins=0", "6/(day-0)=0");
        hold("6/quality s=0", "6/(damp-3)=0", "7+6/0=7", "5/(1/2)=0", "5/0/0=0", "5/0*3=0", "-(5/0)=0", "4/2/0=0");
    }

    private static void leastByMinusOne() {
        hold(MIN + "/-1=" + MIN, MIN + "/(2-damp)=" + MIN, "65536*32768/-1=" + MIN, MIN + "/-1<0", MIN + "/-1/-1=" + MIN);
        hold(MIN + "/-2=10737*100000+41824", "(" + MIN + "+1)/-1=" + MAX);
    }

    private static void comparisons() {
        holdNot("2<1", "2<2", "1>2", "2>2", "1=2", "2=1", "2<=1", "1>=2", "-1>0", "0<-1", "0<=-1", "-1>=0");
        hold("1<2", "2>1", "2=2", "1<=2", "2<=2", "2>=1", "2>=2", "-1<0", "0>-1", "-1<=0", "0>=-1", "0=-0");
    }

    private static void choices() {
        hold("min(2,3)=2", "min(3,2)=2", "min(2,2)=2", "max(2,3)=3", "max(3,2)=3", "max(3,3)=3", "min(-1,0)=-1", "max(-1,0)=0");
        hold("min(1+1,9/3)=2", "max(min(1,2),min(3,4))=3", "-min(1,2)=-1", "2*max(1,2)+1=5", "min(damp,9)=3", "max(damp,day)=3");
    }

    private static void chains() {
        hold("2-3-4=-5", "2-3+4=3", "100/10/5=2", "12/2*3=18", "7/4*2=2", "2*7/4=3", "1-2*3=-5", "1-6/3=-1", "2+3*4-5=9");
        hold("(1-2)*3=-3", "2-(3-4)=3", "100/(10/5)=50", "1<1+1", "1+1>1", "1*2<3*1", "0-1<0");
    }

    private static void minusInFront() {
        hold("-1-1=-2", "-2*3=-6", "3*-2=-6", "-1+3=2", "1--1=2", "--1=1", "---1=-1", "-(1+2)=-3", "-damp=-3", "-0=0", "-min(1,2)=-1");
        hold("-7/2=-3", "2+-3=-1", "-1*-1=1", "-quality s=0");
    }

    private static void binding() {
        hold("1=1 or 1=1 and 1=2", "1=2 and 1=1 or 1=1", "1=1 or 1=2 and 1=2", "1=2 and 1=2 or 1=1", "1=1 or 1=2 or 1=2");
        holdNot("1=2 or 1=1 and 1=2", "[1=1 or 1=1] and 1=2", "1=2 and [1=1 or 1=1]", "1=1 and 1=2 or 1=2", "1=2 or 1=2 or 1=2");
        hold("not 1=2 or 1=1", "not 1=1 or 1=1", "not [1=1 and 1=2]", "not not 1=1", "not 1=2 and 1=1", "not [1=2 or 1=2]");
        holdNot("not 1=2 and 1=2", "not [1=1 or 1=2]", "not not 1=2", "not 1=1 and 1=2", "not 1=1 or 1=2", "not not not 1=1");
    }

    /** Each kind of single test, as it holds and as it does not, with not, and, or: behind a day on which s was carved. */
    private static void eachSingleJoined() {
        String[] holding = {"1<2", "2>1", "1=1", "1<=1", "1>=1", "bears s b", "squeaks t", "[1=1]", "not 1=2", "not bears s d", "not squeaks s"};
        String[] others = {"2<1", "1>2", "1=2", "2<=1", "1>=2", "bears s d", "squeaks s", "[1=2]", "not 1=1", "not bears s b", "not squeaks t"};
        for (String test : holding) {
            joined(test, "1=1", new int[] {1, 0, 1, 1, 1, 1, 0});
            joined(test, "1=2", new int[] {1, 0, 0, 0, 1, 1, 0});
            joined(test, "bears s b", new int[] {1, 0, 1, 1, 1, 1, 0});
        }
        for (String test : others) {
            joined(test, "1=1", new int[] {0, 1, 0, 0, 1, 1, 1});
            joined(test, "1=2", new int[] {0, 1, 0, 0, 0, 0, 1});
            joined(test, "bears s b", new int[] {0, 1, 0, 0, 1, 1, 1});
        }
    }

    private static void joined(String test, String other, int[] due) {
        String[] tests = {test, "not " + test, test + " and " + other, other + " and " + test, test + " or " + other,
            other + " or " + test, "not [" + test + "]"};
        StringBuilder list = new StringBuilder("beast b grim 1 fine 1;beast d grim 1 fine 1;carver c skill 9 pace 1;stall s oak 1;"
                + "stall t oak 1;carve b on s by c when day=0;");
        for (String each : tests) {
            list.append("oil s when ").append(each).append(";");
        }
        ChoirStalls x = Check.taught(list.toString());
        x.setDamp(4);
        x.pass(8);
        x.oil(0);
        Check.rows("of " + test + " with " + other, due, i -> x.order(i + 1, 5));
    }

    private static void bothSides() {
        hold("1=1 or 1/0=1", "1/0=1 or 1=1", "1=1 and 1/0=0", "1=1 and 1=1", "1=1 or 1=1", "1=2 or 1=1");
        holdNot("1=2 and 1/0=0", "1/0=0 and 1=2", "1=2 or 1=2", "1=2 and 1=2");
    }

    private static void atFirst() {
        hold("day=0", "damp=3", "coins=0", "quality s=0", "worms s=0", "rust s=0", "not squeaks s", "not bears s b");
        hold("quality t=0", "worms t=0", "rust t=0", "not bears t b");
    }

    private static void dayByDay() {
        ChoirStalls x = Check.taught(BASE + "oil s when day = 3; oil s when day >= 120;");
        for (int day = 0; day < 6; day++) {
            Check.same("day " + day, x.order(0, 5), day == 3 ? 1 : 0);
            x.pass(1);
        }
        x.pass(113);
        Check.same("day 119", x.order(1, 5), 0);
        x.pass(1);
        Check.same("day 120", x.order(1, 5), 1);
    }

    private static void eachDamp() {
        ChoirStalls x = Check.taught(BASE + "oil s when damp < 1; oil s when damp > 8; oil s when damp = 5;");
        for (int damp = 0; damp <= 9; damp++) {
            x.setDamp(damp);
            Check.same("no damp", x.order(0, 5), damp == 0 ? 1 : 0);
            Check.same("the most damp", x.order(1, 5), damp == 9 ? 1 : 0);
            Check.same("damp of 5", x.order(2, 5), damp == 5 ? 1 : 0);
        }
    }

    /** After ten damp days: s was carved on the first of them, 2 coins came in on each of the last four. */
    private static void onTheWay() {
        String[] holding = {"coins = 8", "quality s = 26", "quality t = 0", "worms s = 20", "worms t = 5", "rust s = 10",
            "rust t = 10", "day = 10", "damp = 5"};
        StringBuilder orders = new StringBuilder(BASE + "bishop p grim 1 from 6; carve b on s by c;");
        for (String test : holding) {
            orders.append("oil t when day > 9 and ").append(test).append(";");
        }
        ChoirStalls x = Check.taught(orders.toString());
        x.setDamp(5);
        x.pass(10);
        for (int i = 0; i < holding.length; i++) {
            Check.same(holding[i], x.order(i + 1, 5), 1);
        }
    }

    private static void bearing() {
        ChoirStalls x = Check.taught("beast b grim 1 fine 1; beast d grim 1 fine 1; carver c skill 9 pace 1; stall s oak 1;"
                + " stall t oak 1; carve d on s by c when day = 0; oil s when bears s b; oil s when bears s d;"
                + " oil s when bears t b; oil s when bears t d;");
        Check.rows("none is borne", new int[] {0, 0, 0, 0}, i -> x.order(i + 1, 5));
        x.pass(1);
        Check.rows("s bears d", new int[] {0, 1, 0, 0}, i -> x.order(i + 1, 5));
        x.strip(0);
        Check.rows("none is borne any more", new int[] {0, 0, 0, 0}, i -> x.order(i + 1, 5));
    }

    private static void squeaking() {
        ChoirStalls x = Check.taught("stall s oak 1; stall t oak 1; oil t when day > 900 or squeaks s; oil s when squeaks t and day > 900;");
        x.setDamp(4);
        x.pass(7);
        Check.same("a rust of 7", x.order(0, 5), 0);
        x.pass(1);
        Check.same("a rust of 8", x.order(0, 5), 1);
        x.oil(0);
        Check.same("oiled", x.order(0, 5), 0);
    }
}
