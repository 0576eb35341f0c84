/** The sentences of 'What it is', 'The choir' and the promises that name no edge, each reckoned once more from other answers. */
public final class PlainChoirTest {
    private static final String RICH = "beast b grim 4 fine 1;beast d grim 0 fine 2;beast m grim 9 fine 3;carver c skill 9 pace 1;"
            + "carver e skill 5 pace 2 likes m;carver f skill 7 pace 3 likes d;stall s oak 1;stall t oak 9;stall u oak 4;stall v oak 2;"
            + "bishop p grim 3 from 0;bishop q grim 8 from 20;bishop r grim 0 from 12;bishop o grim 5 from 20;carve b on s by c when worms s<50;"
            + "carve m on u by e;carve m on t by c when coins>4;carve d on v by f;carve b on v by c when quality v<9 and bears v d;"
            + "oil s when squeaks s;oil t when rust t>4 and day>9 or damp>7;";

    private static final String[] CARVERS = {"c", "e", "f"};

    public static void main(String[] args) {
        Check.sentence("Terms", "Carvers carve beasts under the seats by orders, each in days of their own, faster where they like the"
                + " beast, slower in hard oak", PlainChoirTest::carving);
        Check.sentence("Terms", "worms eat soft seats, and come over from the neighbours", PlainChoirTest::worms);
        Check.sentence("Terms", "hinges rust and squeak, till they are oiled", PlainChoirTest::hinges);
        Check.sentence("Terms", "bishops come and go, each with a taste for grim beasts or mild ones, and give coins when the choir pleases"
                + " them", PlainChoirTest::bishopsOfTaste);
        Check.sentence("Terms", "it is told what each seat is like, who works on what, how pleased a bishop is, which seat pleases least,"
                + " when a seat is carved or squeaks, which air would be the best, and who could be spared", PlainChoirTest::allThatIsTold);
        Check.sentence("Choir", "The bishop of a day: of those whose from is not greater than the day the one with the greatest from,"
                + " of several the one with the greatest number; there can be none.", PlainChoirTest::bishopOfEachDay);
        Check.sentence("Choir", "Pleasure of a bishop: for each stall that bears a beast its quality, less twice by how much the grim of"
                + " the beast and that of the bishop differ, added; less 3 for each stall that squeaks.", PlainChoirTest::pleasureOfEach);
        Check.sentence("Day, 3", "3. Rust: each stall has 1 more (at most 20) with a damp of 4 or more, otherwise in days that can be"
                + " divided by 3.", PlainChoirTest::rustOfEach);
        String[] numbers = {"- a: bytes 1 to 4", "- b: bytes 5 to 8", "- c: bytes 9 to 12", "- d: bytes 13 to 16", "- e: bytes 17 to 20"};
        for (int i = 0; i < numbers.length; i++) {
            int number = i;
            Check.sentence("Promise 2", numbers[i], () -> bytesOf(number));
        }
        Check.sentence("Promise 3", "- n: how many are kept", PlainChoirTest::kept);
        Check.sentence("Promise 3", "Returns n.", PlainChoirTest::kept);
        Check.sentence("Promise 7", "- what: 0 its grim, 1 its fine", PlainChoirTest::beasts);
        Check.sentence("Promise 8", "- what: 0 the skill, 1 the pace", PlainChoirTest::carvers);
        Check.sentence("Promise 9", "- what: 0 its oak", PlainChoirTest::oaks);
        Check.sentence("Promise 9", "2 its quality, 3 its worms, 4 its rust", PlainChoirTest::factsOfStalls);
        Check.sentence("Promise 13", "Returns the stall that bears a beast and pleases this one the least, its squeaking counted with 3 less",
                PlainChoirTest::worstOfEach);
        Check.sentence("Promise 15", "Oils a stall.", PlainChoirTest::oiled);
        Check.sentence("Promise 16", "Smokes a stall: half of its worms are left (cut); it costs 1 coin.", PlainChoirTest::smoked);
        Check.sentence("Promise 16", "Returns how many are left.", PlainChoirTest::smoked);
        Check.sentence("Promise 18", "Lets days go by.", PlainChoirTest::daysGoBy);
        Check.sentence("Promise 18", "- days: how many", PlainChoirTest::daysGoBy);
        Check.sentence("Promise 19", "Returns behind how many days this is so, if nothing is done by hand", PlainChoirTest::untilItIsSo);
        Check.sentence("Promise 20", "Returns this, if nothing is done by hand (nothing is changed).", PlainChoirTest::foreseen);
        Check.sentence("Promise 21", "Looks for the damp with which the most coins come in within so many days, if it is the damp from now"
                + " on.", PlainChoirTest::bestDamp);
        Check.sentence("Promise 22", "Looks for the carver without whom the most coins come in within so many days.",
                PlainChoirTest::bestWithout);
        Check.sentence("Promise 22", "Returns this one, of several the one with the smallest number", PlainChoirTest::bestWithout);
        Check.sentence("Promise 24", "Computes a checksum.", PlainChoirTest::checksum);
        Check.sentence("Promise 24", "for each of the following numbers x, d becomes d * 31 + x", PlainChoirTest::factor);
        Check.finish("PlainChoirTest");
    }

    private static ChoirStalls rich(int days, int damp) {
        return richWith(RICH, days, damp);
    }

    private static ChoirStalls richWith(String list, int days, int damp) {
        ChoirStalls x = Check.taught(list);
        x.setDamp(damp);
        if (days > 0) {
            x.pass(days);
        }
        return x;
    }

    private static void carving() {
        String head = "beast b grim 4 fine 3;beast d grim 4 fine 3;stall s oak 3;stall t oak 6;";
        Check.same("without an order", Check.taught(head + "carver c skill 1 pace 1;").pass(120), 0);
        Check.same("18 days", Check.taught(head + "carver c skill 1 pace 1;carve b on s by c;").until(0, 0), 18);
        Check.same("each second day", Check.taught(head + "carver c skill 1 pace 2;carve b on s by c;").until(0, 0), 35);
        Check.same("a liked one", Check.taught(head + "carver c skill 1 pace 1 likes b;carve b on s by c;").until(0, 0), 9);
        Check.same("another liked one", Check.taught(head + "carver c skill 1 pace 1 likes d;carve b on s by c;").until(0, 0), 18);
        Check.same("in harder oak", Check.taught(head + "carver c skill 1 pace 1;carve b on t by c;").until(1, 0), 36);
        ChoirStalls x = Check.taught(head + "carver c skill 1 pace 1;carver e skill 1 pace 2;carve b on s by c;carve d on t by e;");
        Check.same("each in days of their own", x.until(0, 0) * 100 + x.until(1, 0), 1800 + 71);
        x.pass(71);
        Check.rows("the beasts", new int[] {0, 1}, i -> x.stall(i, 1));
    }

    private static void worms() {
        ChoirStalls x = Check.taught("stall s oak 9;stall t oak 1;stall u oak 9;stall v oak 9;");
        x.setDamp(4);
        x.pass(5);
        Check.rows("in the soft seat", new int[] {0, 10, 0, 0}, i -> x.stall(i, 3));
        x.pass(12);
        Check.rows("and over to its neighbours", new int[] {12, 36, 12, 2}, i -> x.stall(i, 3));
        ChoirStalls y = Check.taught("beast b grim 4 fine 1;carver c skill 9 pace 1;stall s oak 1;stall t oak 9;carve b on s by c;carve b on t by c;");
        y.setDamp(4);
        y.pass(40);
        Check.same("they eat the soft seat", y.stall(0, 2) < 20, true);
        Check.same("more than the hard one", 26 - y.stall(0, 2) > 18 - y.stall(1, 2), true);
    }

    private static void hinges() {
        ChoirStalls x = Check.taught("stall s oak 1;stall t oak 1;stall u oak 1;oil u when squeaks u;");
        x.setDamp(4);
        x.pass(8);
        Check.rows("all squeak", new int[] {1, 1, 1}, i -> x.stall(i, 5));
        x.oil(0);
        Check.rows("one is oiled by hand", new int[] {0, 1, 1}, i -> x.stall(i, 5));
        x.pass(1);
        Check.rows("one by an order", new int[] {0, 1, 0}, i -> x.stall(i, 5));
        x.pass(7);
        Check.rows("and again", new int[] {1, 1, 1}, i -> x.stall(i, 5));
    }

    private static void bishopsOfTaste() {
        String list = "beast mild grim 0 fine 1;beast wild grim 9 fine 1;carver c skill 9 pace 1;stall s oak 1;bishop p grim 0 from 1;"
                + "bishop q grim 9 from 3;carve # on s by c;";
        int[] mild = {0, 2, 4, 4, 4};
        int[] wild = {0, 0, 0, 2, 4};
        ChoirStalls x = Check.taught(list.replace("#", "mild"));
        ChoirStalls y = Check.taught(list.replace("#", "wild"));
        for (int day = 0; day < mild.length; day++) {
            Check.same("who is here on day " + day, x.bishop(), day < 1 ? -1 : day < 3 ? 0 : 1);
            x.pass(1);
            y.pass(1);
            Check.same("for the mild one, behind day " + day, x.count(10), mild[day]);
            Check.same("for the wild one, behind day " + day, y.count(10), wild[day]);
        }
    }

    private static void allThatIsTold() {
        // b, as p likes it, on s by c; m, which he does not, on t by e, whom he would rather miss.
        ChoirStalls x = Check.taught("beast b grim 0 fine 1;beast m grim 9 fine 1;carver c skill 9 pace 1;carver e skill 1 pace 1;"
                + "stall s oak 1;stall t oak 2;bishop p grim 0 from 0;carve b on s by c when damp<8;carve m on t by e;");
        Check.same("when t is carved", x.until(1, 0), 4);
        Check.same("when it squeaks", x.until(1, 1), 22);
        Check.same("who could be spared", x.spare(90), 1);
        x.pass(2);
        Check.rows("what s is like", new int[] {1, 0, 26, 2, 1, 0, 26}, i -> x.stall(0, i));
        Check.rows("who works on what", new int[] {-1, 1}, i -> x.carver(i, 3));
        Check.same("how far it has come", x.order(1, 4), 2);
        Check.same("how pleased p is", x.pleasure(0), 26);
        x.pass(2);
        Check.same("how pleased p is now", x.pleasure(0), 26 + 1 - 18);
        Check.same("which seat pleases least", x.worst(0), 1);
        x.strip(0);
        x.strip(1);
        Check.same("which air would be the best", x.advise(1), 7);
    }

    private static void bishopOfEachDay() {
        int[][] all = {{0, 0, 0, 0, 0, 0}, {5, 4, 3, 2, 1, 0}, {1, 2, 3, 4, 5, 6}, {7, 3, 7, 3, 9, 9}, {4, 0, 4, 8, 0, 8}, {3}, {9, 2}, {}};
        for (int[] froms : all) {
            StringBuilder list = new StringBuilder();
            for (int i = 0; i < froms.length; i++) {
                list.append("bishop p").append(i).append(" grim ").append(i).append(" from ").append(froms[i]).append(";");
            }
            ChoirStalls x = Check.taught(list.toString());
            for (int day = 0; day < 12; day++) {
                int due = -1;
                for (int from = 0; from <= day; from++) {
                    for (int i = 0; i < froms.length; i++) {
                        due = froms[i] == from ? i : due;
                    }
                }
                Check.same("day " + day + " of " + list, x.bishop(), due);
                x.pass(1);
            }
        }
    }

    private static final int[] TASTES = {3, 8, 0, 5};

    private static int delight(ChoirStalls x, int bishop, int stall) {
        int beast = x.stall(stall, 1);
        return beast < 0 ? 0 : x.stall(stall, 2) - 2 * Math.abs(x.beast(beast, 0) - TASTES[bishop]);
    }

    /** The rich choir on a day, on some of them with one beast less. */
    private static ChoirStalls someStripped(int day) {
        ChoirStalls x = rich(day, day % 10);
        if (day % 4 > 1 && x.stall(day % 4, 1) >= 0) {
            x.strip(day % 4);
        }
        return x;
    }

    private static void pleasureOfEach() {
        for (int day = 0; day < 60; day += 3) {
            ChoirStalls x = someStripped(day);
            for (int bishop = 0; bishop < 4; bishop++) {
                int due = 0;
                for (int stall = 0; stall < 4; stall++) {
                    due += delight(x, bishop, stall) - 3 * x.stall(stall, 5);
                }
                Check.same("of bishop " + bishop + " on day " + day, x.pleasure(bishop), due);
            }
        }
    }

    private static void worstOfEach() {
        for (int day = 0; day < 60; day += 3) {
            ChoirStalls x = someStripped(day);
            for (int bishop = 0; bishop < 4; bishop++) {
                int due = -1;
                int least = 0;
                for (int stall = 3; stall >= 0; stall--) {
                    int pleasing = delight(x, bishop, stall) - 3 * x.stall(stall, 5);
                    if (x.stall(stall, 1) >= 0 && (due < 0 || pleasing <= least)) {
                        due = stall;
                        least = pleasing;
                    }
                }
                Check.same("of bishop " + bishop + " on day " + day, x.worst(bishop), due);
            }
        }
    }

    private static void rustOfEach() {
        StringBuilder list = new StringBuilder();
        for (int i = 0; i < 10; i++) {
            list.append("stall s").append(i).append(" oak ").append(i % 9 + 1).append(";");
        }
        ChoirStalls x = Check.taught(list.toString());
        int due = 0;
        for (int day = 0; day < 40; day++) {
            int damp = day * 7 % 10;
            x.setDamp(damp);
            x.pass(1);
            due = Math.min(20, due + (damp >= 4 || day % 3 == 0 ? 1 : 0));
            for (int stall = 0; stall < 10; stall++) {
                Check.same("of stall " + stall + " behind day " + day, x.stall(stall, 4), due);
            }
        }
        Check.same("the most is come to", due, 20);
    }

    /** Only this number is a beginning of a line; the four bytes of it are read in their order. */
    private static void bytesOf(int number) {
        int blanks = 0x20202020;
        // o i l _
        int oil = 0x6f696c20;
        for (int other : new int[] {blanks, 0x0a0a0a0a}) {
            int[] all = {other, other, other, other, other};
            all[number] = oil;
            ChoirStalls x = new ChoirStalls();
            Check.same("feed", x.feed(all[0], all[1], all[2], all[3], all[4]), 20);
            Check.same("the end is the error", x.teach(), 1);
            Check.same("behind all", x.errorAt(), 20);
            // o i l ?, the last of its bytes.
            all[number] = 0x6f696c3f;
            x.feed(blanks, blanks, blanks, blanks, blanks);
            x.feed(all[0], all[1], all[2], all[3], all[4]);
            Check.same("the ? is the error", x.teach(), 1);
            Check.same("at the last of its bytes", x.errorAt(), 20 + 4 * number + 3);
        }
    }

    private static void kept() {
        String list = "stall a oak 1;stall b oak 2;stall c oak 3;";
        for (int n = 0; n <= list.length(); n++) {
            ChoirStalls x = new ChoirStalls();
            Check.write(x, list);
            Check.same("trim", x.trim(n), n);
            Check.same("bytes", x.count(13), n);
            Check.same("teach of " + n, x.teach(), n % 14 == 0 ? 0 : 1);
            Check.same("stalls of " + n, x.count(4), n % 14 == 0 ? n / 14 : 0);
        }
    }

    private static void beasts() {
        for (int grim = 0; grim <= 9; grim++) {
            for (int fine = 1; fine <= 9; fine++) {
                ChoirStalls x = Check.taught("beast a grim 5 fine 5;beast b grim " + grim + " fine " + fine + ";");
                Check.same("grim", x.beast(1, 0), grim);
                Check.same("fine", x.beast(1, 1), fine);
                Check.same("of another", x.beast(0, 0) * 10 + x.beast(0, 1), 55);
            }
        }
    }

    private static void carvers() {
        for (int skill = 1; skill <= 9; skill++) {
            for (int pace = 1; pace <= 4; pace++) {
                ChoirStalls x = Check.taught("carver a skill 5 pace 3;carver b skill " + skill + " pace " + pace + ";");
                Check.same("skill", x.carver(1, 0), skill);
                Check.same("pace", x.carver(1, 1), pace);
                Check.same("of another", x.carver(0, 0) * 10 + x.carver(0, 1), 53);
            }
        }
    }

    private static void oaks() {
        for (int oak = 1; oak <= 9; oak++) {
            ChoirStalls x = Check.taught("stall a oak 5;stall b oak " + oak + ";");
            Check.same("oak", x.stall(1, 0), oak);
            Check.same("of another", x.stall(0, 0), 5);
            x.pass(9);
            Check.same("it stays", x.stall(1, 0), oak);
        }
    }

    private static void factsOfStalls() {
        // 27 - 5 of quality on day 1; 3 worms less 1 on each later day, and 6 of rust.
        ChoirStalls x = Check.taught("beast b grim 4 fine 1;carver c skill 9 pace 1;stall s oak 9;stall t oak 5;carve b on t by c;");
        x.setDamp(6);
        x.pass(6);
        Check.rows("s", new int[] {9, -1, 0, 6, 6, 0, 0}, i -> x.stall(0, i));
        Check.rows("t", new int[] {5, 0, 22, 10, 6, 0, 0}, i -> x.stall(1, i));
        x.pass(2);
        Check.rows("s, 1 more by its neighbour", new int[] {9, -1, 0, 10, 8, 1, 0}, i -> x.stall(0, i));
        Check.rows("t", new int[] {5, 0, 22, 14, 8, 1, 0}, i -> x.stall(1, i));
    }

    private static final int[] FACTS = {0, 1, 2, 3, 4, 5};

    /** All that is told of other stalls, of orders, carvers and days. */
    private static long besides(ChoirStalls x, int stall) {
        long sum = x.count(0) * 31L * 31 + x.count(1) * 31L + x.count(11);
        for (int i = 0; i < 4; i++) {
            for (int fact : FACTS) {
                sum = sum * 31 + (i == stall ? 0 : x.stall(i, fact));
            }
        }
        for (int order = 0; order < x.count(6); order++) {
            sum = sum * 31 + x.order(order, 4);
        }
        for (int carver = 0; carver < x.count(3); carver++) {
            sum = sum * 31 + x.carver(carver, 4);
        }
        return sum;
    }

    private static int[] factsOf(ChoirStalls x, int stall) {
        int[] all = new int[FACTS.length];
        for (int fact : FACTS) {
            all[fact] = x.stall(stall, fact);
        }
        return all;
    }

    private static void oiled() {
        for (int stall = 0; stall < 4; stall++) {
            ChoirStalls x = rich(23, 6);
            long others = besides(x, stall);
            int coins = x.count(10);
            int[] due = factsOf(x, stall);
            Check.same("its rust", x.oil(stall), due[4]);
            due[4] = 0;
            due[5] = 0;
            int it = stall;
            Check.rows("stall " + stall, due, i -> x.stall(it, i));
            Check.same("all else stays", besides(x, stall), others);
            Check.same("it costs nothing", x.count(10), coins);
        }
    }

    private static void smoked() {
        for (int stall = 0; stall < 4; stall++) {
            ChoirStalls x = rich(23, 6);
            long others = besides(x, stall);
            int coins = x.count(10);
            int worms = x.count(9);
            int[] due = factsOf(x, stall);
            int left = x.smoke(stall);
            Check.same("left", left, due[3] / 2);
            Check.same("all worms", x.count(9), worms - due[3] + left);
            Check.same("coins", x.count(10), coins - 1);
            due[3] = left;
            int it = stall;
            Check.rows("stall " + stall, due, i -> x.stall(it, i));
            Check.same("all else stays", besides(x, stall), others);
        }
    }

    private static void daysGoBy() {
        for (int days : new int[] {1, 2, 3, 7, 30, 59, 119, 120}) {
            ChoirStalls x = rich(0, 5);
            ChoirStalls y = rich(0, 5);
            int carved = 0;
            for (int i = 0; i < days; i++) {
                carved += y.pass(1);
            }
            Check.same("carved in " + days, x.pass(days), carved);
            Check.same("the day behind " + days, x.count(0), days);
            Check.same("all behind " + days, x.digest(), y.digest());
        }
    }

    private static boolean isSo(ChoirStalls x, int stall, int what) {
        return what == 0 ? x.stall(stall, 1) >= 0 : what == 1 ? x.stall(stall, 5) == 1 : x.stall(stall, 3) >= 30;
    }

    private static void untilItIsSo() {
        for (int start : new int[] {0, 5, 21}) {
            for (int i = 0; i < 12; i++) {
                ChoirStalls x = rich(start, 5);
                int days = x.until(i / 3, i % 3);
                int passed = 0;
                while (passed < 200 && !isSo(x, i / 3, i % 3)) {
                    x.pass(1);
                    passed++;
                }
                Check.same("stall " + i / 3 + ", " + i % 3 + ", from day " + start, days, isSo(x, i / 3, i % 3) ? passed : -1);
            }
        }
        ChoirStalls y = rich(0, 5);
        Check.same("it would squeak", y.until(3, 1), 8);
        y.pass(7);
        y.oil(3);
        y.pass(1);
        Check.same("what is done by hand is not foreseen", y.stall(3, 5), 0);
    }

    private static void foreseen() {
        ChoirStalls x = rich(9, 5);
        long digest = x.digest();
        int[] seen = new int[5];
        for (int what = 0; what < 5; what++) {
            seen[what] = x.foresee(70, what);
        }
        Check.same("nothing is changed", x.digest(), digest);
        int coins = x.count(10);
        Check.same("carved", x.pass(70), seen[1]);
        Check.same("coins", x.count(10) - coins, seen[0]);
        Check.same("squeaking", x.count(8), seen[2]);
        Check.same("worms", x.count(9), seen[3]);
        Check.same("pleasure", x.pleasure(x.bishop()), seen[4]);
        ChoirStalls y = Check.taught("stall s oak 1;stall t oak 1;");
        y.setDamp(4);
        Check.same("both would squeak", y.foresee(8, 2), 2);
        y.pass(7);
        y.oil(0);
        y.pass(1);
        Check.same("what is done by hand is not foreseen", y.count(8), 1);
    }

    /** Coins that come in within so many days from day 5 on, by living through them. */
    private static int coinsIn(String list, int days, int damp) {
        ChoirStalls x = richWith(list, 5, 3);
        x.setDamp(damp);
        int before = x.count(10);
        x.pass(days);
        return x.count(10) - before;
    }

    private static void bestDamp() {
        boolean[] found = new boolean[10];
        for (int days = 1; days <= 90; days += days < 10 ? 1 : 8) {
            int due = 0;
            for (int damp = 1; damp <= 9; damp++) {
                due = coinsIn(RICH, days, damp) >= coinsIn(RICH, days, due) ? damp : due;
            }
            found[due] = true;
            Check.same("within " + days, rich(5, 3).advise(days), due);
        }
        int several = 0;
        for (boolean one : found) {
            several += one ? 1 : 0;
        }
        Check.same("not the same for all", several > 1, true);
    }

    /** Coins that come in within so many days from the first on, while no test of the orders of this one holds. */
    private static int coinsWithout(String list, String carver, int days) {
        String never = list.replaceAll("(by " + carver + ")( when )?([^;]*);", "$1 when 2<1;");
        ChoirStalls x = Check.taught(never);
        x.pass(days);
        return x.count(10);
    }

    private static void bestWithout() {
        String worse = RICH.replace("bishop p grim 3", "bishop p grim 0").replace("bishop q grim 8", "bishop q grim 1");
        String best = RICH.replace("bishop p grim 3", "bishop p grim 9").replace("bishop o grim 5", "bishop o grim 9");
        boolean[] found = new boolean[CARVERS.length];
        for (String list : new String[] {RICH, worse, best}) {
            for (int days = 1; days <= 90; days += days < 10 ? 1 : 8) {
                int due = 0;
                for (int carver = 1; carver < CARVERS.length; carver++) {
                    due = coinsWithout(list, CARVERS[carver], days) > coinsWithout(list, CARVERS[due], days) ? carver : due;
                }
                found[due] = true;
                Check.same("within " + days, Check.taught(list).spare(days), due);
            }
        }
        int several = 0;
        for (boolean one : found) {
            several += one ? 1 : 0;
        }
        Check.same("not the same for all", several > 1, true);
    }

    private static void checksum() {
        ChoirStalls x = rich(9, 5);
        Check.same("the same choir", x.digest(), rich(9, 5).digest());
        Check.same("computed twice", x.digest(), x.digest());
        Check.same("another damp", x.digest() == rich(9, 6).digest(), false);
        Check.same("another day", x.digest() == rich(10, 5).digest(), false);
    }

    private static void factor() {
        // The last number of count is that of the bytes, and none is behind it in a new object.
        ChoirStalls x = new ChoirStalls();
        long none = x.digest();
        x.feed(0, 0, 0, 0, 0);
        Check.same("20 bytes more", x.digest(), none + 20);
        ChoirStalls y = new ChoirStalls();
        y.setDamp(4);
        long power = 1;
        for (int i = 0; i < 12; i++) {
            power *= 31;
        }
        Check.same("1 more of damp, with 12 behind it", y.digest(), none + power);
        y.pass(1);
        Check.same("1 more of day, with 13 behind it", y.digest(), none + power + power * 31);
    }
}
