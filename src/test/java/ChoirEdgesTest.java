/** Edges of '2. The choir': what a stall, an order and the choir have, bishops and their pleasure. */
public final class ChoirEdgesTest {
    /** c carves b on s on the first day: a quality of 26. */
    private static final String ONE = "beast b grim 4 fine 1;beast d grim 4 fine 1;carver c skill 9 pace 1;stall s oak 1;stall t oak 1;"
            + "bishop p grim 4 from 0;carve b on s by c when day=0;";

    public static void main(String[] args) {
        Check.sentence("Choir", "A stall bears a beast, or none (at first), has a quality, 0 (at first) or more, worms, 0 (at first)"
                + " to 99, and rust, 0 (at first) to 20", ChoirEdgesTest::stallsAtFirst);
        Check.sentence("Choir", "worms, 0 (at first) to 99", ChoirEdgesTest::mostWorms);
        Check.sentence("Choir", "rust, 0 (at first) to 20", ChoirEdgesTest::mostRust);
        Check.sentence("Choir", "it squeaks with a rust of 8 or more", ChoirEdgesTest::squeaking);
        Check.sentence("Choir", "An order of carve has work, 0 (at first) or more", ChoirEdgesTest::workAtFirst);
        Check.sentence("Choir", "it is open, if its stall does not bear its beast", ChoirEdgesTest::openOrders);
        Check.sentence("Choir", "There is damp, 0 to 9 (3, at first)", ChoirEdgesTest::damp);
        Check.sentence("Choir", "there are coins (0, at first)", ChoirEdgesTest::coinsAtFirst);
        Check.sentence("Choir, bishop", "of those whose from is not greater than the day", ChoirEdgesTest::firstDayOfABishop);
        Check.sentence("Choir, bishop", "of those whose from is not greater than the day", ChoirEdgesTest::latestFrom);
        Check.sentence("Choir, bishop", "the one with the greatest from, of several the one with the greatest number",
                ChoirEdgesTest::bishopsOfOneDay);
        Check.sentence("Choir, bishop", "the one with the greatest from, of several the one with the greatest number",
                ChoirEdgesTest::eachOrderOfBishops);
        Check.sentence("Choir, bishop", "there can be none", ChoirEdgesTest::noBishop);
        Check.sentence("Choir, pleasure", "for each stall that bears a beast its quality", ChoirEdgesTest::noneBears);
        Check.sentence("Choir, pleasure", "less twice by how much the grim of the beast and that of the bishop differ",
                ChoirEdgesTest::differences);
        Check.sentence("Choir, pleasure", "less 3 for each stall that squeaks", ChoirEdgesTest::eachThatSqueaks);
        Check.sentence("Choir, pleasure", "for each stall that bears a beast its quality", ChoirEdgesTest::tenStalls);
        Check.sentence("Choir, pleasure", "It can be less than 0.", ChoirEdgesTest::lessThanNothing);
        Check.sentence("Language", "Stalls whose numbers differ by 1 are neighbours.", ChoirEdgesTest::neighboursAtTheEnds);
        Check.finish("ChoirEdgesTest");
    }

    private static void stallsAtFirst() {
        ChoirStalls x = Check.taught("beast b grim 1 fine 1;stall s oak 2;stall t oak 9;bishop p grim 1 from 0;");
        Check.rows("stall 0", new int[] {2, -1, 0, 0, 0, 0, 0}, i -> x.stall(0, i));
        Check.rows("stall 1", new int[] {9, -1, 0, 0, 0, 0, 0}, i -> x.stall(1, i));
        Check.same("stalls that bear the beast", x.beast(0, 2), 0);
        Check.same("stalls that bear one", x.count(7), 0);
    }

    private static void mostWorms() {
        ChoirStalls x = Check.taught("stall s oak 9;");
        x.setDamp(9);
        x.pass(49);
        Check.same("98", x.stall(0, 3), 98);
        x.pass(1);
        Check.same("99 of 100", x.stall(0, 3), 99);
        x.pass(1);
        Check.same("99 of 101", x.stall(0, 3), 99);
        Check.same("all worms", x.count(9), 99);
        x.setDamp(5);
        x.pass(1);
        Check.same("99 of 99", x.stall(0, 3), 99);
        x.setDamp(3);
        x.pass(1);
        Check.same("98 of 98", x.stall(0, 3), 98);
        ChoirStalls y = Check.taught("stall s oak 1;");
        y.setDamp(2);
        y.pass(98);
        Check.same("98, one a day", y.stall(0, 3), 98);
        y.pass(1);
        Check.same("99, one a day", y.stall(0, 3), 99);
        y.pass(1);
        Check.same("no 100", y.stall(0, 3), 99);
    }

    private static void mostRust() {
        ChoirStalls x = Check.taught("stall s oak 1;");
        x.setDamp(4);
        for (int days = 1; days <= 22; days++) {
            x.pass(1);
            Check.same("rust behind " + days, x.stall(0, 4), Math.min(days, 20));
        }
        x.setDamp(0);
        x.pass(120);
        Check.same("it stays", x.stall(0, 4), 20);
        Check.same("rust that oil takes", x.oil(0), 20);
    }

    private static void squeaking() {
        ChoirStalls x = Check.taught("stall s oak 1;oil s when squeaks s;");
        ChoirStalls y = Check.taught("stall s oak 1;");
        x.setDamp(4);
        y.setDamp(4);
        for (int rust = 1; rust <= 20; rust++) {
            y.pass(1);
            Check.same("squeaks with " + rust, y.stall(0, 5), rust >= 8 ? 1 : 0);
            Check.same("stalls that squeak with " + rust, y.count(8), rust >= 8 ? 1 : 0);
        }
        x.pass(7);
        Check.same("no oil with 7", x.order(0, 5), 0);
        Check.same("until it squeaks", x.until(0, 1), 1);
        x.pass(1);
        Check.same("oil with 8", x.order(0, 5), 1);
        Check.same("it squeaks now", x.until(0, 1), 0);
        x.pass(1);
        Check.same("oiled", x.stall(0, 4), 1);
    }

    private static void workAtFirst() {
        ChoirStalls x = Check.taught("beast b grim 1 fine 9;carver c skill 1 pace 1;stall s oak 9;carve b on s by c;carve b on s by c;");
        Check.same("work at first", x.order(0, 4), 0);
        x.pass(1);
        Check.same("work", x.order(0, 4), 1);
        Check.same("work of the next", x.order(1, 4), 0);
    }

    private static void openOrders() {
        ChoirStalls x = Check.taught("beast b grim 1 fine 1;beast d grim 1 fine 1;carver c skill 9 pace 1;stall s oak 1;stall t oak 1;"
                + "carve b on s by c when day=0;carve b on s by c when day>900;carve d on s by c when day=1;carve b on t by c when day>900;"
                + "oil s;oil t;");
        Check.same("all of carve", x.count(12), 4);
        Check.rows("due", new int[] {1, 0, 0, 0, 1, 1}, i -> x.order(i, 5));
        x.pass(1);
        Check.same("both of b on s are closed", x.count(12), 2);
        Check.rows("due", new int[] {0, 0, 1, 0, 1, 1}, i -> x.order(i, 5));
        x.pass(1);
        Check.same("it bears another: open again", x.count(12), 3);
        x.strip(0);
        Check.same("it bears none", x.count(12), 4);
    }

    private static void damp() {
        ChoirStalls x = new ChoirStalls();
        Check.same("at first", x.count(1), 3);
        Check.same("before 0", x.setDamp(0), 3);
        Check.same("none", x.count(1), 0);
        Check.same("before 9", x.setDamp(9), 0);
        Check.same("the most", x.count(1), 9);
        Check.refuses(x, "damp of 10", IllegalArgumentException.class, () -> x.setDamp(10));
        Check.refuses(x, "damp of -1", IllegalArgumentException.class, () -> x.setDamp(-1));
        Check.same("the most, still", x.count(1), 9);
    }

    private static void coinsAtFirst() {
        Check.same("a new object", new ChoirStalls().count(10), 0);
        ChoirStalls x = Check.taught(ONE);
        Check.same("a new list", x.count(10), 0);
        Check.refuses(x, "a coin to smoke with", IllegalStateException.class, () -> x.smoke(0));
        x.pass(1);
        Check.same("behind a day", x.count(10), 2);
    }

    private static void firstDayOfABishop() {
        ChoirStalls x = Check.taught("bishop p grim 1 from 0;");
        Check.same("from 0 on day 0", x.bishop(), 0);
        ChoirStalls y = Check.taught("bishop p grim 1 from 1;bishop q grim 1 from 3;");
        int[] due = {-1, 0, 0, 1, 1};
        for (int day = 0; day < due.length; day++) {
            Check.same("bishop on day " + day, y.bishop(), due[day]);
            y.pass(1);
        }
    }

    private static void latestFrom() {
        ChoirStalls x = Check.taught("bishop p grim 1 from 999;");
        for (int i = 0; i < 8; i++) {
            x.pass(120);
        }
        x.pass(38);
        Check.same("day", x.count(0), 998);
        Check.same("from 999 on day 998", x.bishop(), -1);
        x.pass(1);
        Check.same("from 999 on day 999", x.bishop(), 0);
        x.pass(120);
        Check.same("from 999 later", x.bishop(), 0);
    }

    private static void bishopsOfOneDay() {
        ChoirStalls x = Check.taught("bishop a grim 1 from 2;bishop b grim 1 from 2;bishop c grim 1 from 1;bishop d grim 1 from 2;"
                + "bishop e grim 1 from 3;bishop f grim 1 from 0;");
        int[] due = {5, 2, 3, 4, 4};
        for (int day = 0; day < due.length; day++) {
            Check.same("bishop on day " + day, x.bishop(), due[day]);
            x.pass(1);
        }
        ChoirStalls y = Check.taught("bishop a grim 1 from 0;bishop b grim 1 from 0;");
        Check.same("of two alike", y.bishop(), 1);
    }

    private static void eachOrderOfBishops() {
        for (int froms = 0; froms < 64; froms++) {
            int[] from = {froms / 16, froms / 4 % 4, froms % 4};
            ChoirStalls x = Check.taught("bishop a grim 1 from " + from[0] + ";bishop b grim 1 from " + from[1] + ";bishop c grim 1 from "
                    + from[2] + ";");
            for (int day = 0; day < 5; day++) {
                int due = -1;
                for (int earliest = 0; earliest <= day; earliest++) {
                    for (int bishop = 0; bishop < 3; bishop++) {
                        due = from[bishop] == earliest ? bishop : due;
                    }
                }
                Check.same("from " + from[0] + " " + from[1] + " " + from[2] + " on day " + day, x.bishop(), due);
                x.pass(1);
            }
        }
    }

    private static void noBishop() {
        Check.same("none told", Check.taught("stall s oak 1;").bishop(), -1);
        ChoirStalls x = Check.taught(ONE.replace("from 0", "from 2"));
        Check.same("none yet", x.bishop(), -1);
        x.pass(2);
        Check.same("no coins without one", x.count(10), 0);
        x.pass(1);
        Check.same("coins with one", x.count(10), 2);
    }

    private static void noneBears() {
        ChoirStalls x = Check.taught("beast b grim 9 fine 1;stall s oak 1;stall t oak 1;bishop p grim 0 from 0;bishop q grim 9 from 0;");
        Check.same("nothing pleases", x.pleasure(0), 0);
        Check.same("nothing pleases", x.pleasure(1), 0);
        ChoirStalls y = Check.taught("bishop p grim 0 from 0;");
        Check.same("without stalls", y.pleasure(0), 0);
        ChoirStalls z = Check.taught(ONE);
        z.pass(1);
        Check.same("one stall", z.pleasure(0), 26);
        z.strip(0);
        Check.same("stripped", z.pleasure(0), 0);
    }

    private static void differences() {
        for (int grim = 0; grim <= 9; grim++) {
            ChoirStalls x = Check.taught(ONE.replace("beast b grim 4", "beast b grim " + grim)
                    + "bishop m grim 0 from 500;bishop w grim 9 from 500;");
            x.pass(1);
            Check.same("a grim of " + grim + " for 4", x.pleasure(0), 26 - 2 * Math.abs(grim - 4));
            Check.same("a grim of " + grim + " for 0", x.pleasure(1), 26 - 2 * grim);
            Check.same("a grim of " + grim + " for 9", x.pleasure(2), 26 - 2 * (9 - grim));
        }
    }

    private static void eachThatSqueaks() {
        ChoirStalls x = Check.taught(ONE.replace("stall t oak 1;", "stall t oak 9;stall u oak 9;"));
        x.setDamp(4);
        x.pass(7);
        Check.same("none squeaks with 7", x.pleasure(0), 26);
        x.pass(1);
        Check.same("all three, with a beast or without", x.pleasure(0), 26 - 9);
        x.oil(1);
        Check.same("two", x.pleasure(0), 26 - 6);
        x.oil(0);
        Check.same("one without a beast", x.pleasure(0), 26 - 3);
        x.oil(2);
        Check.same("none", x.pleasure(0), 26);
    }

    /** As many stalls as there may be, one after the other carved; the first beast is as far from the bishop as it can be. */
    private static void tenStalls() {
        StringBuilder list = new StringBuilder("beast b grim 9 fine 1;beast d grim 1 fine 1;carver c skill 9 pace 1;bishop p grim 0 from 0;"
                + "bishop q grim 9 from 500;");
        for (int i = 0; i < 10; i++) {
            list.append("stall s").append(i).append(" oak 1;carve ").append(i == 9 ? "b" : "d").append(" on s").append(i).append(" by c;");
        }
        ChoirStalls x = Check.taught(list.toString());
        x.setDamp(0);
        for (int stalls = 0; stalls < 10; stalls++) {
            Check.same("p, with " + stalls, x.pleasure(0), stalls * 24);
            Check.same("q, with " + stalls, x.pleasure(1), stalls * 10);
            Check.same("worst of p, with " + stalls, x.worst(0), stalls == 0 ? -1 : 0);
            Check.same("worst of q, with " + stalls, x.worst(1), stalls == 0 ? -1 : 0);
            x.pass(1);
        }
        Check.same("p, with all", x.pleasure(0), 9 * 24 + 8);
        Check.same("q, with all", x.pleasure(1), 9 * 10 + 26);
        Check.same("worst of p, with all: the last", x.worst(0), 9);
        Check.same("worst of q, with all: the first", x.worst(1), 0);
        Check.same("mean", x.mean(), 26.0);
    }

    private static void lessThanNothing() {
        ChoirStalls x = Check.taught("stall s oak 1;stall t oak 1;bishop p grim 4 from 0;");
        x.setDamp(4);
        x.pass(8);
        Check.same("two squeak", x.pleasure(0), -6);
        Check.same("it gives nothing, and takes nothing", x.count(10), 0);
        ChoirStalls y = Check.taught("beast b grim 9 fine 1;carver c skill 1 pace 1;stall s oak 1;bishop p grim 0 from 0;"
                + "carve b on s by c;");
        y.pass(2);
        Check.same("quality of 2, less 18", y.pleasure(0), -16);
        y.pass(60);
        Check.same("it takes nothing", y.count(10), 0);
    }

    private static void neighboursAtTheEnds() {
        // Only the first breeds by itself, then only the last; oak of 4 is just kept dry by a damp of 2.
        StringBuilder first = new StringBuilder("stall s0 oak 1;");
        StringBuilder last = new StringBuilder();
        for (int i = 1; i < 10; i++) {
            first.append("stall s").append(i).append(" oak 4;");
            last.append("stall s").append(i).append(" oak 4;");
        }
        ChoirStalls x = Check.taught(first.toString());
        ChoirStalls y = Check.taught(last.append("stall s0 oak 1;").toString());
        x.setDamp(2);
        y.setDamp(2);
        x.pass(10);
        y.pass(10);
        Check.rows("10 worms on the first", new int[] {10, 0, 0, 0, 0, 0, 0, 0, 0, 0}, i -> x.stall(i, 3));
        Check.rows("10 worms on the last", new int[] {0, 0, 0, 0, 0, 0, 0, 0, 0, 10}, i -> y.stall(i, 3));
        x.pass(10);
        y.pass(10);
        Check.rows("over to the second", new int[] {20, 10, 0, 0, 0, 0, 0, 0, 0, 0}, i -> x.stall(i, 3));
        Check.rows("over to the last but one", new int[] {0, 0, 0, 0, 0, 0, 0, 0, 10, 20}, i -> y.stall(i, 3));
        x.pass(1);
        y.pass(1);
        Check.rows("and the third", new int[] {22, 11, 1, 0, 0, 0, 0, 0, 0, 0}, i -> x.stall(i, 3));
        Check.rows("and the last but two", new int[] {0, 0, 0, 0, 0, 0, 0, 1, 11, 22}, i -> y.stall(i, 3));
        ChoirStalls z = Check.taught("stall s oak 4;");
        z.setDamp(4);
        z.pass(30);
        Check.same("one alone has none", z.stall(0, 3), 30);
    }
}
