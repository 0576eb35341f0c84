/** Promises 14 to 17: by hand. */
public final class HandTest {
    private static final String LIST = "beast b grim 4 fine 1; carver c skill 9 pace 1; stall s oak 1; stall t oak 1;"
            + " bishop p grim 4 from 0; carve b on s by c when day < 6; carve b on t by c when day > 500;";

    public static void main(String[] args) {
        damp();
        oil();
        smoke();
        strip();
        Check.finish("HandTest");
    }

    private static void damp() {
        ChoirStalls x = new ChoirStalls();
        Check.same("first damp", x.setDamp(0), 3);
        for (int damp = 1; damp <= 9; damp++) {
            Check.same("damp before " + damp, x.setDamp(damp), damp - 1);
            Check.same("damp now", x.count(1), damp);
        }
        for (int damp : new int[] {-1, 10, Integer.MIN_VALUE, Integer.MAX_VALUE}) {
            Check.refuses(x, "damp " + damp, IllegalArgumentException.class, () -> x.setDamp(damp));
        }
    }

    private static void none(ChoirStalls x, String what, Check.Call call) {
        Check.refuses(x, what, IndexOutOfBoundsException.class, call);
    }

    private static void oil() {
        ChoirStalls x = Check.taught(LIST);
        x.setDamp(4);
        x.pass(9);
        Check.same("oil", x.oil(1), 9);
        Check.same("rust behind it", x.stall(1, 4), 0);
        Check.same("the other rust", x.stall(0, 4), 9);
        Check.same("oil again", x.oil(1), 0);
        x.pass(30);
        Check.same("oil of the most", x.oil(0), 20);
        for (int stall : new int[] {-1, 2, Integer.MIN_VALUE, Integer.MAX_VALUE}) {
            none(x, "oil " + stall, () -> x.oil(stall));
        }
    }

    private static void smoke() {
        ChoirStalls x = Check.taught(LIST);
        Check.refuses(x, "no coin", IllegalStateException.class, () -> x.smoke(0));
        none(x, "no coin and no stall", () -> x.smoke(2));
        x.setDamp(6);
        x.pass(5);
        int coins = x.count(10);
        Check.same("coins", coins, 5 * 2);
        Check.same("worms", x.stall(1, 3), 16);
        Check.same("worms", x.stall(0, 3), 16);
        x.pass(1);
        Check.same("odd or even", x.stall(1, 3), 20);
        Check.same("smoke", x.smoke(1), 10);
        Check.same("smoke again", x.smoke(1), 5);
        Check.same("smoke, cut", x.smoke(1), 2);
        Check.same("left", x.stall(1, 3), 2);
        Check.same("the other's", x.stall(0, 3), 20);
        Check.same("coins", x.count(10), 12 - 3);
        for (int i = 0; i < 9; i++) {
            x.smoke(1);
        }
        Check.same("none left", x.stall(1, 3), 0);
        Check.same("no coins", x.count(10), 0);
        Check.refuses(x, "the last coin is spent", IllegalStateException.class, () -> x.smoke(0));
        for (int stall : new int[] {-1, 2, Integer.MIN_VALUE, Integer.MAX_VALUE}) {
            none(x, "smoke " + stall, () -> x.smoke(stall));
        }
    }

    private static void strip() {
        ChoirStalls x = Check.taught(LIST);
        Check.refuses(x, "bears none", IllegalStateException.class, () -> x.strip(0));
        x.pass(5);
        int worms = x.stall(0, 3);
        Check.same("open", x.count(12), 1);
        Check.same("strip", x.strip(0), 0);
        Check.same("no beast", x.stall(0, 1), -1);
        Check.same("no quality", x.stall(0, 2), 0);
        Check.same("worms stay", x.stall(0, 3), worms);
        Check.same("carved in all stays", x.count(11), 1);
        Check.same("open again", x.count(12), 2);
        Check.same("due again", x.order(0, 5), 1);
        Check.refuses(x, "bears none now", IllegalStateException.class, () -> x.strip(0));
        for (int stall : new int[] {-1, 2, Integer.MIN_VALUE, Integer.MAX_VALUE}) {
            none(x, "strip " + stall, () -> x.strip(stall));
        }
        Check.same("carved anew", x.pass(1), 1);
    }
}
