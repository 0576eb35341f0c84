/** Promises 6 to 13: what there is. */
public final class FactsTest {
    private static final String LIST =
            "beast owl grim 2 fine 1; beast ape grim 9 fine 9; beast hen grim 0 fine 2;"
            + "carver wat skill 7 pace 1 likes ape; carver tom skill 4 pace 2; carver joan skill 9 pace 3 likes owl;"
            + "stall a oak 3; stall b oak 9; stall c oak 2;"
            + "bishop odo grim 8 from 4; bishop max1 grim 1 from 2; bishop giles grim 4 from 4; bishop zoe grim 5 from 9;"
            + "carve hen on a by tom when day > 3; carve owl on a by joan; carve ape on b by wat when damp < 9;"
            + "carve hen on c by tom; oil a when rust a > 1; oil b;";

    public static void main(String[] args) {
        atFirst();
        onTheWay();
        refused();
        workToday();
        bishops();
        worstAndPleasure();
        manyOfAll();
        Check.finish("FactsTest");
    }

    private static void atFirst() {
        ChoirStalls x = Check.taught(LIST);
        Check.rows("count", new int[] {0, 3, 3, 3, 3, 4, 6, 0, 0, 0, 0, 0, 4, 0}, x::count);
        Check.rows("beast 1", new int[] {9, 9, 0}, i -> x.beast(1, i));
        Check.rows("beast 2", new int[] {0, 2, 0}, i -> x.beast(2, i));
        Check.rows("carver 0", new int[] {7, 1, 1, 2, 0}, i -> x.carver(0, i));
        Check.rows("carver 1", new int[] {4, 2, -1, 3, 0}, i -> x.carver(1, i));
        Check.rows("carver 2", new int[] {9, 3, 0, 1, 0}, i -> x.carver(2, i));
        Check.rows("stall 1", new int[] {9, -1, 0, 0, 0, 0, 0}, i -> x.stall(1, i));
        Check.rows("order 0", new int[] {0, 0, 2, 1, 0, 0}, i -> x.order(0, i));
        Check.rows("order 1", new int[] {0, 0, 0, 2, 0, 1}, i -> x.order(1, i));
        Check.rows("order 4", new int[] {1, 0, -1, -1, 0, 0}, i -> x.order(4, i));
        Check.rows("order 5", new int[] {1, 1, -1, -1, 0, 1}, i -> x.order(5, i));
        Check.same("tape", x.feed(0, 0, 0, 0, 0) + x.count(13), 40);
    }

    private static void onTheWay() {
        ChoirStalls x = Check.taught(LIST);
        Check.same("joan carves the owl on the first day", x.pass(1), 1);
        Check.rows("stall 0", new int[] {3, 0, 29, 1, 1, 0, 0}, i -> x.stall(0, i));
        Check.rows("stall 1", new int[] {9, -1, 0, 0, 1, 0, 0}, i -> x.stall(1, i));
        Check.rows("order 1", new int[] {0, 0, 0, 2, 0, 0}, i -> x.order(1, i));
        Check.rows("order 2", new int[] {0, 1, 1, 0, 14, 1}, i -> x.order(2, i));
        Check.rows("order 3", new int[] {0, 2, 2, 1, 4, 1}, i -> x.order(3, i));
        Check.rows("carver 2", new int[] {9, 3, 0, -1, 1}, i -> x.carver(2, i));
        Check.rows("count", new int[] {1, 3, 3, 3, 3, 4, 6, 1, 0, 2, 0, 1, 3, 0}, x::count);
        Check.same("pass", x.pass(1), 0);
        Check.same("the bishop of day 2", x.bishop(), 1);
        Check.same("by how much a pleases", x.stall(0, 6), 29 - 2);
        Check.same("c bears none", x.stall(2, 6), 0);
        x.setDamp(9);
        Check.same("the test of order 2 does not hold", x.order(2, 5), 0);
        Check.same("it is open though", x.count(12), 3);
    }

    private static void refused() {
        ChoirStalls x = Check.taught(LIST);
        x.pass(3);
        int[] ends = {-1, Integer.MIN_VALUE, Integer.MAX_VALUE, 100};
        for (int i : ends) {
            none(x, "count " + i, () -> x.count(i));
            none(x, "beast " + i, () -> x.beast(i, 0));
            none(x, "beast what " + i, () -> x.beast(0, i));
            none(x, "carver " + i, () -> x.carver(i, 0));
            none(x, "carver what " + i, () -> x.carver(0, i));
            none(x, "stall " + i, () -> x.stall(i, 0));
            none(x, "stall what " + i, () -> x.stall(0, i));
            none(x, "order " + i, () -> x.order(i, 0));
            none(x, "order what " + i, () -> x.order(0, i));
            none(x, "pleasure " + i, () -> x.pleasure(i));
            none(x, "worst " + i, () -> x.worst(i));
        }
        none(x, "count 14", () -> x.count(14));
        none(x, "beast 3", () -> x.beast(3, 0));
        none(x, "beast what 3", () -> x.beast(0, 3));
        none(x, "carver 3", () -> x.carver(3, 0));
        none(x, "carver what 5", () -> x.carver(0, 5));
        none(x, "stall 3", () -> x.stall(3, 0));
        none(x, "stall what 7", () -> x.stall(0, 7));
        none(x, "order 6", () -> x.order(6, 0));
        none(x, "order what 6", () -> x.order(0, 6));
        none(x, "pleasure 4", () -> x.pleasure(4));
        none(x, "worst 4", () -> x.worst(4));
        ChoirStalls y = new ChoirStalls();
        none(y, "no beast", () -> y.beast(0, 0));
        none(y, "no carver", () -> y.carver(0, 0));
        none(y, "no stall", () -> y.stall(0, 0));
        none(y, "no order", () -> y.order(0, 0));
        none(y, "no bishop", () -> y.pleasure(0));
        none(y, "no worst", () -> y.worst(0));
    }

    private static void none(ChoirStalls x, String what, Check.Call call) {
        Check.refuses(x, what, IndexOutOfBoundsException.class, call);
    }

    private static void workToday() {
        ChoirStalls x = Check.taught("beast b grim 1 fine 9; carver c skill 1 pace 2; carver d skill 1 pace 4;"
                + " stall s oak 9; carve b on s by c when day >= 2; carve b on s by d; carve b on s by c when day = 6;");
        int[] byC = {-1, -1, 0, -1, 0, -1, 0};
        int[] byD = {1, -1, -1, -1, 1, -1, -1};
        for (int day = 0; day < byC.length; day++) {
            Check.same("c on day " + day, x.carver(0, 3), byC[day]);
            Check.same("d on day " + day, x.carver(1, 3), byD[day]);
            x.pass(1);
        }
    }

    private static void bishops() {
        ChoirStalls x = Check.taught(LIST);
        int[] due = {-1, -1, 1, 1, 2, 2, 2, 2, 2, 3, 3};
        for (int day = 0; day < due.length; day++) {
            Check.same("bishop of day " + day, x.bishop(), due[day]);
            x.pass(1);
        }
        ChoirStalls y = Check.taught("bishop late grim 1 from 6; bishop early grim 1 from 0; bishop mid grim 1 from 3;");
        int[] mixed = {1, 1, 1, 2, 2, 2, 0, 0};
        for (int day = 0; day < mixed.length; day++) {
            Check.same("bishop of day " + day, y.bishop(), mixed[day]);
            y.pass(1);
        }
    }

    private static void worstAndPleasure() {
        ChoirStalls x = Check.taught("beast mild grim 0 fine 1; beast wild grim 9 fine 1; carver c skill 3 pace 1;"
                + " stall s oak 1; stall t oak 1; stall u oak 1; bishop m grim 0 from 0; bishop w grim 9 from 0;"
                + " carve mild on s by c; carve wild on u by c;");
        Check.same("none bears", x.worst(0), -1);
        Check.same("none pleases", x.pleasure(0), 0);
        x.pass(2);
        Check.same("quality", x.stall(0, 2), 8);
        Check.same("pleasure of m", x.pleasure(0), 8 + 8 - 18);
        Check.same("pleasure of w", x.pleasure(1), 8 + 8 - 18);
        Check.same("worst of m", x.worst(0), 2);
        Check.same("worst of w", x.worst(1), 0);
        x.setDamp(4);
        x.pass(7);
        Check.same("all squeak, the one without a beast too", x.count(8), 3);
        Check.same("pleasure of m", x.pleasure(0), 8 + 8 - 18 - 9);
        x.oil(1);
        Check.same("pleasure of m", x.pleasure(0), 8 + 8 - 18 - 6);
        Check.same("by how much it pleases, without its squeaking", x.stall(0, 6), 8 - 18);
        alike();
    }

    private static void alike() {
        ChoirStalls x = Check.taught("beast b grim 4 fine 1; carver c skill 9 pace 1; stall s oak 9; stall t oak 9;"
                + " stall u oak 9; bishop m grim 4 from 500; carve b on u by c; carve b on t by c; carve b on s by c;");
        x.setDamp(4);
        x.pass(20);
        Check.same("alike, the first", x.worst(0), 0);
        x.oil(0);
        Check.same("squeaking counts", x.worst(0), 1);
        x.oil(1);
        x.oil(2);
        Check.same("alike again", x.worst(0), 0);
        x.strip(0);
        Check.same("the first bears none", x.worst(0), 1);
        Check.same("there is no bishop of today", x.bishop(), -1);
        Check.same("so nobody is pleased", x.stall(1, 6), 0);
        Check.same("the beast's stalls", x.beast(0, 2), 2);
    }

    private static void manyOfAll() {
        StringBuilder all = new StringBuilder();
        for (int i = 0; i < 10; i++) {
            all.append(i < 8 ? "beast b" + i + " grim " + i + " fine " + (i + 1) + ";" : "");
            all.append(i < 5 ? "carver c" + i + " skill " + (i + 1) + " pace " + (i % 4 + 1) + " likes b" + i + ";" : "");
            all.append("stall s" + i + " oak " + (i % 9 + 1) + ";");
            all.append(i < 6 ? "bishop p" + i + " grim " + i + " from " + (10 - i) + ";" : "");
        }
        for (int i = 0; i < 20; i++) {
            all.append(i < 10 ? "carve b" + i % 8 + " on s" + i + " by c" + i % 5 + ";" : "oil s" + (i - 10) + ";");
        }
        ChoirStalls x = Check.taught(all.toString());
        Check.rows("count", new int[] {0, 3, 8, 5, 10, 6, 20, 0, 0, 0, 0, 0, 10, 0}, x::count);
        for (int i = 0; i < 20; i++) {
            Check.rows("order " + i, new int[] {i / 10, i % 10, i < 10 ? i % 8 : -1, i < 10 ? i % 5 : -1, 0, 1},
                    orderOf(x, i));
        }
        Check.rows("beast 7", new int[] {7, 8, 0}, i -> x.beast(7, i));
        Check.rows("carver 4", new int[] {5, 1, 4, 4, 0}, i -> x.carver(4, i));
        Check.rows("stall 9", new int[] {1, -1, 0, 0, 0, 0, 0}, i -> x.stall(9, i));
        Check.same("the earliest bishop", x.pass(5) + x.bishop(), x.count(11) + 5);
    }

    private static java.util.function.IntUnaryOperator orderOf(ChoirStalls x, int order) {
        return what -> x.order(order, what);
    }
}
