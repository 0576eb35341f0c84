/** Edges of '2. The choir': how a day goes, step by step. */
public final class DayEdgesTest {
    private static final String HEAD = "beast b grim 4 fine 1;beast d grim 4 fine 1;carver c skill 9 pace 1;carver e skill 9 pace 1;"
            + "stall s oak 1;stall t oak 1;stall u oak 1;bishop p grim 4 from 0;";

    public static void main(String[] args) {
        Check.sentence("Day, 1", "Carvers, by numbers", DayEdgesTest::byNumbers);
        Check.sentence("Day, 1", "in days that can be divided by their pace", DayEdgesTest::paces);
        Check.sentence("Day, 1", "each works on the first order of carve by this one, in the order in which they are told",
                DayEdgesTest::firstOrder);
        Check.sentence("Day, 1", "that is open, and whose test holds now (or that has none)", DayEdgesTest::openAndHolding);
        Check.sentence("Day, 1", "there is as much work more as the skill, twice that, if the carver likes the beast",
                DayEdgesTest::workOfADay);
        Check.sentence("Day, 1", "If it is oak of the stall * fine of the beast * 2 or more then", DayEdgesTest::enoughWork);
        Check.sentence("Day, 1", "If it is oak of the stall * fine of the beast * 2 or more then", DayEdgesTest::mostWork);
        Check.sentence("Day, 1", "the work is 0 again", DayEdgesTest::workBehindCarving);
        Check.sentence("Day, 1", "the stall bears the beast, has no worms", DayEdgesTest::wormsBehindCarving);
        Check.sentence("Day, 1", "a quality of 3 * skill less oak, 5 more, if the carver likes the beast; at least 1 in the end",
                DayEdgesTest::qualities);
        Check.sentence("Day, 2", "the orders of oil, in the order in which they are told", DayEdgesTest::oilInOrder);
        Check.sentence("Day, 2", "if the test holds now (or there is none), the rust of the stall is 0", DayEdgesTest::oilNow);
        Check.sentence("Day, 3", "1 more (at most 20) with a damp of 4 or more", DayEdgesTest::rustByDamp);
        Check.sentence("Day, 3", "otherwise in days that can be divided by 3", DayEdgesTest::rustByDay);
        Check.sentence("Day, 4", "each has as many more as half (cut) of the damp", DayEdgesTest::halfOfTheDamp);
        Check.sentence("Day, 4", "less a quarter (cut) of its oak", DayEdgesTest::quarterOfTheOak);
        Check.sentence("Day, 4", "1 more, if a neighbour has 10 or more (ahead of this)", DayEdgesTest::tenWormsNextToIt);
        Check.sentence("Day, 4", "Worms, all stalls at once", DayEdgesTest::allAtOnce);
        Check.sentence("Day, 4", "at least 0, at most 99 in the end", DayEdgesTest::inTheEnd);
        Check.sentence("Day, 4", "each stall with 30 worms or more that bears a beast has 1 less quality", DayEdgesTest::thirtyWorms);
        Check.sentence("Day, 4", "1 less quality (at least 0)", DayEdgesTest::noQualityLeft);
        Check.sentence("Day, 5", "the pleasure of this one is 10 or more", DayEdgesTest::tenOfPleasure);
        Check.sentence("Day, 5", "a tenth (cut) of it comes in as coins", DayEdgesTest::tenths);
        Check.sentence("Day, 5", "If there is a bishop of the day", DayEdgesTest::bishopOfTheDay);
        Check.sentence("Day", "A day goes like this:", DayEdgesTest::coinsBehindRustAndWorms);
        Check.sentence("Day, 6", "The day is 1 greater.", DayEdgesTest::dayInTheSteps);
        Check.sentence("Terms", "Time is told in days, from 0.", DayEdgesTest::dayInTheSteps);
        Check.finish("DayEdgesTest");
    }

    private static void byNumbers() {
        // What the first carves is there for the second on the same day, not the other way round.
        ChoirStalls x = Check.taught(HEAD + "carve b on s by c;carve b on t by e when bears s b;carve b on u by c when bears t b;");
        Check.same("the first, then the second", x.pass(1), 2);
        Check.same("the first sees it a day later", x.pass(1), 1);
        ChoirStalls y = Check.taught(HEAD + "carve b on t by c when bears s b;carve b on s by e;");
        Check.same("only the second", y.pass(1), 1);
        Check.same("then the first", y.pass(1), 1);
        // Both want the same: the first gets it, the second does nothing at all.
        ChoirStalls z = Check.taught(HEAD + "carve b on s by e;carve b on s by c;");
        Check.same("only one carves it", z.pass(1), 1);
        Check.same("c", z.carver(0, 4), 1);
        Check.same("e", z.carver(1, 4), 0);
        Check.same("no work of e", z.order(0, 4), 0);
    }

    private static void paces() {
        for (int pace = 1; pace <= 4; pace++) {
            ChoirStalls x = Check.taught("beast b grim 1 fine 9;carver c skill 1 pace " + pace + ";stall s oak 9;carve b on s by c;");
            for (int day = 0; day < 13; day++) {
                Check.same("order of day " + day + ", pace " + pace, x.carver(0, 3), day % pace == 0 ? 0 : -1);
                x.pass(1);
                Check.same("work behind day " + day + ", pace " + pace, x.order(0, 4), day / pace + 1);
            }
        }
    }

    private static void firstOrder() {
        ChoirStalls x = Check.taught("beast b grim 1 fine 9;beast d grim 1 fine 9;carver c skill 2 pace 1;carver e skill 3 pace 1;"
                + "stall s oak 9;stall t oak 1;oil s;carve d on t by e;carve b on s by c;carve d on t by c;carve b on s by e;");
        x.pass(1);
        Check.rows("work", new int[] {0, 3, 2, 0, 0}, i -> x.order(i, 4));
        x.pass(4);
        Check.rows("work", new int[] {0, 15, 10, 0, 0}, i -> x.order(i, 4));
        Check.same("18 of 18 is carved", x.pass(1), 1);
        Check.rows("work, none on a second order that day", new int[] {0, 0, 12, 0, 0}, i -> x.order(i, 4));
        x.pass(1);
        Check.rows("work", new int[] {0, 0, 14, 0, 3}, i -> x.order(i, 4));
    }

    private static void openAndHolding() {
        ChoirStalls x = Check.taught(HEAD + "carve b on s by c when day>1;carve b on t by c when day=1;carve b on u by c;"
                + "carve d on u by c when day=3 or day=4;");
        int[] due = {2, 1, 0, 3, 2, -1, -1};
        for (int day = 0; day < due.length; day++) {
            Check.same("order of day " + day, x.carver(0, 3), due[day]);
            Check.same("carved on day " + day, x.pass(1), due[day] < 0 ? 0 : 1);
        }
    }

    private static void workOfADay() {
        ChoirStalls x = Check.taught("beast b grim 1 fine 9;beast d grim 1 fine 9;carver c skill 1 pace 1 likes d;"
                + "carver e skill 9 pace 1 likes b;carver f skill 7 pace 1;carver g skill 9 pace 1 likes d;stall s oak 9;"
                + "carve b on s by c;carve b on s by e;carve b on s by f;carve b on s by g;");
        x.pass(1);
        Check.rows("work of a day", new int[] {1, 18, 7, 9}, i -> x.order(i, 4));
        x.pass(1);
        Check.rows("work of two", new int[] {2, 36, 14, 18}, i -> x.order(i, 4));
    }

    /** Just the day with which the work is enough, for each skill, oak and fine; then it is 0 again. */
    private static void enoughWork() {
        for (int skill = 1; skill <= 9; skill++) {
            for (int fine = 1; fine <= 9; fine += 4) {
                int oak = (skill * 4 + fine) % 9 + 1;
                int days = (oak * fine * 2 + skill - 1) / skill;
                ChoirStalls x = Check.taught("beast b grim 1 fine " + fine + ";carver c skill " + skill + " pace 1;stall s oak " + oak
                        + ";carve b on s by c;");
                String what = "skill " + skill + " oak " + oak + " fine " + fine;
                Check.same("until, " + what, x.until(0, 0), days);
                for (int left = days - 1; left > 0; left -= 60) {
                    Check.same("too early, " + what, x.pass(Math.min(left, 60)), 0);
                }
                Check.same("work, " + what, x.order(0, 4), skill * (days - 1));
                Check.same("none yet, " + what, x.stall(0, 1), -1);
                Check.same("carved, " + what, x.pass(1), 1);
                Check.same("work behind it, " + what, x.order(0, 4), 0);
                Check.same("the beast, " + what, x.stall(0, 1), 0);
            }
        }
    }

    private static void mostWork() {
        String list = "beast b grim 1 fine 9;carver c skill 9 pace 1#;stall s oak 9;carve b on s by c;";
        ChoirStalls x = Check.taught(list.replace("#", ""));
        Check.same("17 days", x.pass(17), 0);
        Check.same("153 of 162", x.order(0, 4), 153);
        Check.same("just 162", x.pass(1), 1);
        ChoirStalls y = Check.taught(list.replace("#", " likes b"));
        Check.same("8 days", y.pass(8), 0);
        Check.same("144 of 162", y.order(0, 4), 144);
        Check.same("just 162, liked", y.pass(1), 1);
        ChoirStalls z = Check.taught(list.replace("#", "").replace("skill 9", "skill 7"));
        Check.same("23 days", z.pass(23), 0);
        Check.same("161 of 162", z.order(0, 4), 161);
        Check.same("168 of 162", z.pass(1), 1);
        Check.same("nothing is left of 168", z.order(0, 4), 0);
        ChoirStalls w = Check.taught("beast b grim 1 fine 1;carver c skill 1 pace 1;stall s oak 1;carve b on s by c;");
        Check.same("1 of 2", w.pass(1), 0);
        Check.same("2 of 2", w.pass(1), 1);
    }

    private static void workBehindCarving() {
        ChoirStalls x = Check.taught("beast b grim 1 fine 1;carver c skill 2 pace 1;carver e skill 1 pace 1;stall s oak 3;"
                + "carve b on s by c;carve b on s by e;");
        Check.same("carved by c", x.pass(3), 1);
        Check.same("c's work", x.order(0, 4), 0);
        Check.same("e's work, who came too late, stays", x.order(1, 4), 2);
        x.pass(5);
        Check.same("e's work", x.order(1, 4), 2);
        x.strip(0);
        Check.same("c begins at 0, e at 2", x.pass(2), 0);
        Check.same("c's work", x.order(0, 4), 4);
        Check.same("e's work", x.order(1, 4), 4);
        Check.same("c again", x.pass(1), 1);
        Check.same("c carved", x.carver(0, 4), 2);
    }

    private static void wormsBehindCarving() {
        ChoirStalls x = Check.taught(HEAD.replace("bishop p grim 4 from 0;", "") + "carve b on s by c when day=9;");
        x.setDamp(4);
        x.pass(9);
        Check.same("worms", x.stall(0, 3), 9 * 2 + 4);
        Check.same("rust", x.stall(0, 4), 9);
        x.pass(1);
        Check.same("those of the day alone: 2, and 1 of the neighbour", x.stall(0, 3), 3);
        Check.same("rust goes on", x.stall(0, 4), 10);
        Check.same("worms of the neighbour: none of s, but of u", x.stall(1, 3), 22 + 3);
        Check.same("worms of u: some of t", x.stall(2, 3), 22 + 3);
        ChoirStalls y = Check.taught("beast b grim 4 fine 1;carver c skill 9 pace 1;stall s oak 1;stall t oak 4;carve b on s by c when day=10;");
        y.setDamp(2);
        y.pass(10);
        Check.same("ten worms", y.stall(0, 3), 10);
        y.pass(1);
        Check.same("gone ahead of the worms' turn", y.stall(1, 3), 0);
    }

    /** The quality of a beast that is carved, liked or not. */
    private static int quality(int skill, int oak, boolean liked) {
        ChoirStalls x = Check.taught("beast b grim 1 fine 1;carver c skill " + skill + " pace 1" + (liked ? " likes b" : "")
                + ";stall s oak " + oak + ";carve b on s by c;");
        x.setDamp(0);
        x.pass(18);
        return x.stall(0, 2);
    }

    private static void qualities() {
        for (int skill = 1; skill <= 9; skill++) {
            for (int oak = 1; oak <= 9; oak++) {
                int plain = 3 * skill - oak;
                Check.same("skill " + skill + " oak " + oak, quality(skill, oak, false), plain < 1 ? 1 : plain);
                Check.same("liked, skill " + skill + " oak " + oak, quality(skill, oak, true), plain + 5 < 1 ? 1 : plain + 5);
            }
        }
        Check.same("3 less 2", quality(1, 2, false), 1);
        Check.same("3 less 3", quality(1, 3, false), 1);
        Check.same("3 less 7 and 5", quality(1, 7, true), 1);
        Check.same("3 less 9 and 5", quality(1, 9, true), 1);
        Check.same("3 less 6 and 5", quality(1, 6, true), 2);
    }

    private static void oilInOrder() {
        ChoirStalls x = Check.taught(HEAD + "oil s when rust t=3;oil t when rust s=0;oil u when rust t=0;oil s when rust u=3;");
        x.setDamp(4);
        x.pass(3);
        Check.rows("now", new int[] {1, 0, 0, 1}, i -> x.order(i, 5));
        x.pass(1);
        Check.rows("rust", new int[] {1, 1, 1}, i -> x.stall(i, 4));
        // Told the other way round, none sees what the later ones do.
        ChoirStalls y = Check.taught(HEAD + "oil u when rust t=0;oil t when rust s=0;oil s when rust t=3;");
        y.setDamp(4);
        y.pass(4);
        Check.rows("rust", new int[] {1, 4, 4}, i -> y.stall(i, 4));
    }

    private static void oilNow() {
        ChoirStalls x = Check.taught(HEAD + "carve b on s by c when day=2;oil s when bears s b;oil t;oil u when day=1;");
        int[][] due = {{1, 1, 1}, {2, 1, 1}, {1, 1, 2}, {1, 1, 3}};
        x.setDamp(4);
        for (int[] rust : due) {
            x.pass(1);
            Check.rows("rust behind day " + x.count(0), rust, i -> x.stall(i, 4));
        }
        x.setDamp(0);
        x.pass(1);
        Check.rows("no rust comes on day 4", new int[] {0, 0, 3}, i -> x.stall(i, 4));
    }

    private static void rustByDamp() {
        for (int damp = 0; damp <= 9; damp++) {
            ChoirStalls x = Check.taught("stall s oak 1;");
            x.setDamp(damp);
            int[] due = damp >= 4 ? new int[] {1, 2, 3, 4, 5} : new int[] {1, 1, 1, 2, 2};
            for (int day = 0; day < due.length; day++) {
                x.pass(1);
                Check.same("rust behind day " + day + ", damp " + damp, x.stall(0, 4), due[day]);
            }
        }
    }

    private static void rustByDay() {
        ChoirStalls x = Check.taught("stall s oak 1;stall t oak 9;");
        for (int day = 0; day < 70; day++) {
            x.pass(1);
            Check.same("rust behind day " + day, x.stall(0, 4), Math.min(20, day / 3 + 1));
            Check.same("rust of the other behind day " + day, x.stall(1, 4), Math.min(20, day / 3 + 1));
        }
    }

    private static void halfOfTheDamp() {
        int[] due = {0, 0, 1, 1, 2, 2, 3, 3, 4, 4};
        for (int damp = 0; damp <= 9; damp++) {
            ChoirStalls x = Check.taught("stall s oak 1;");
            x.setDamp(damp);
            x.pass(1);
            Check.same("worms of a day, damp " + damp, x.stall(0, 3), due[damp]);
            x.pass(1);
            Check.same("worms of two, damp " + damp, x.stall(0, 3), 2 * due[damp]);
        }
    }

    private static void quarterOfTheOak() {
        int[] due = {4, 4, 4, 3, 3, 3, 3, 2, 2};
        int[] dry = {8, 8, 8, 5, 5, 5, 5, 2, 2};
        for (int oak = 1; oak <= 9; oak++) {
            ChoirStalls x = Check.taught("stall s oak " + oak + ";");
            x.setDamp(9);
            x.pass(1);
            Check.same("worms, oak " + oak, x.stall(0, 3), due[oak - 1]);
            x.pass(1);
            x.setDamp(1);
            x.pass(1);
            Check.same("worms less, oak " + oak, x.stall(0, 3), dry[oak - 1]);
        }
    }

    private static void tenWormsNextToIt() {
        for (String list : new String[] {"stall s oak 1;stall t oak 4;", "stall t oak 4;stall s oak 1;"}) {
            ChoirStalls x = Check.taught(list);
            int s = list.startsWith("stall s") ? 0 : 1;
            x.setDamp(2);
            x.pass(9);
            Check.same("9 on s", x.stall(s, 3), 9);
            x.pass(1);
            Check.same("10 on s", x.stall(s, 3), 10);
            Check.same("9 were not enough", x.stall(1 - s, 3), 0);
            x.pass(1);
            Check.same("10 are", x.stall(1 - s, 3), 1);
            Check.same("1 is none for s", x.stall(s, 3), 11);
        }
        ChoirStalls y = Check.taught("stall s oak 1;stall t oak 4;stall u oak 1;");
        y.setDamp(2);
        y.pass(11);
        Check.rows("two neighbours bring 1", new int[] {11, 1, 11}, i -> y.stall(i, 3));
        ChoirStalls z = Check.taught("stall s oak 1;stall t oak 4;stall u oak 4;");
        z.setDamp(2);
        z.pass(15);
        Check.rows("two further on is no neighbour", new int[] {15, 5, 0}, i -> z.stall(i, 3));
    }

    private static void allAtOnce() {
        // s has its 10th, or loses its 10th, in the very step in which t looks at it: what was ahead of it counts.
        ChoirStalls x = Check.taught("stall s oak 1;stall t oak 4;");
        x.setDamp(2);
        x.pass(10);
        Check.rows("the 10th has just come", new int[] {10, 0}, i -> x.stall(i, 3));
        for (String list : new String[] {"stall s oak 4;stall t oak 8;", "stall t oak 8;stall s oak 4;"}) {
            ChoirStalls y = Check.taught(list);
            int s = list.startsWith("stall s") ? 0 : 1;
            y.setDamp(6);
            y.pass(5);
            Check.same("worms of s", y.stall(s, 3), 10);
            Check.same("worms of t", y.stall(1 - s, 3), 5);
            y.setDamp(0);
            y.pass(1);
            Check.same("the 10th goes", y.stall(s, 3), 9);
            Check.same("it was there for t", y.stall(1 - s, 3), 5 + 1 - 2);
            y.pass(1);
            Check.same("it is there no more", y.stall(1 - s, 3), 4 - 2);
        }
    }

    private static void inTheEnd() {
        ChoirStalls x = Check.taught("stall s oak 1;stall t oak 8;");
        x.setDamp(2);
        x.pass(11);
        Check.same("1 and 1 less 2 is 0", x.stall(1, 3), 0);
        x.pass(20);
        Check.same("and stays 0", x.stall(1, 3), 0);
        x.setDamp(0);
        x.pass(1);
        Check.same("1 less 2 is 0 at least", x.stall(1, 3), 0);
        x.setDamp(4);
        x.pass(1);
        Check.same("2 and 1 less 2", x.stall(1, 3), 1);
        x.setDamp(0);
        x.pass(1);
        Check.same("1 and 1 less 2", x.stall(1, 3), 0);
        ChoirStalls y = Check.taught("stall s oak 9;stall t oak 1;");
        y.setDamp(9);
        y.pass(60);
        Check.same("99 and 4 and 1 less 2 is 99 in the end", y.stall(0, 3), 99);
        Check.same("99 and 4 and 1", y.stall(1, 3), 99);
        y.setDamp(2);
        y.pass(1);
        Check.same("99 and 1 and 1 less 2", y.stall(0, 3), 99);
        y.setDamp(0);
        y.pass(1);
        Check.same("99 and 1 less 2", y.stall(0, 3), 98);
    }

    private static void thirtyWorms() {
        ChoirStalls x = Check.taught(HEAD.replace("bishop p grim 4 from 0;", "") + "carve b on s by c;");
        x.setDamp(2);
        x.pass(10);
        x.pass(9);
        Check.same("10 days of 1, then of 2", x.stall(0, 3), 28);
        x.setDamp(0);
        x.pass(1);
        Check.same("29 worms", x.stall(0, 3), 29);
        Check.same("29 eat nothing", x.stall(0, 2), 26);
        x.pass(1);
        Check.same("30 worms", x.stall(0, 3), 30);
        Check.same("30 eat, on the day on which they come", x.stall(0, 2), 25);
        Check.same("on t there are 30 too", x.stall(1, 3), 30);
        Check.same("but no beast", x.stall(1, 2), 0);
        x.pass(1);
        Check.same("31 eat 1", x.stall(0, 2), 24);
        x.setDamp(9);
        x.pass(17);
        Check.same("99 worms", x.stall(0, 3), 99);
        Check.same("99 eat 1 a day too", x.stall(0, 2), 24 - 17);
        ChoirStalls y = Check.taught("beast d grim 4 fine 1;beast b grim 4 fine 1;carver c skill 9 pace 1;stall s oak 4;carve b on s by c;");
        y.setDamp(4);
        y.pass(31);
        Check.same("31 worms", y.stall(0, 3), 31);
        Check.same("eaten twice", y.stall(0, 2), 23 - 2);
        y.setDamp(0);
        y.pass(1);
        Check.same("30 worms are left", y.stall(0, 3), 30);
        Check.same("eaten by 30", y.stall(0, 2), 23 - 3);
        y.pass(1);
        Check.same("29 worms are left", y.stall(0, 3), 29);
        Check.same("not by those that were 30 ahead", y.stall(0, 2), 23 - 3);
    }

    private static void noQualityLeft() {
        ChoirStalls x = Check.taught("beast b grim 4 fine 1;carver c skill 1 pace 1;stall s oak 1;carve b on s by c;bishop p grim 4 from 900;");
        x.setDamp(8);
        x.pass(2);
        Check.same("quality", x.stall(0, 2), 2);
        x.pass(7);
        Check.same("32 worms", x.stall(0, 3), 32);
        Check.same("1 left", x.stall(0, 2), 1);
        x.pass(1);
        Check.same("0 left", x.stall(0, 2), 0);
        x.pass(30);
        Check.same("not less", x.stall(0, 2), 0);
        Check.same("it bears the beast all the same", x.stall(0, 1), 0);
        Check.same("and is not open", x.count(12), 0);
        Check.same("a squeak, and nothing else", x.pleasure(0), -3);
    }

    /** Coins of the first day on which the stall bears a beast that pleases so much. */
    private static int coinsOf(int pleasure) {
        // 9 and more by a skill of 9 and an oak of 2 to 9; less by what it is too grim.
        int oak = 9;
        int quality = 27 - oak;
        while ((quality - pleasure) % 2 != 0 || quality < pleasure) {
            oak--;
            quality = 27 - oak;
        }
        ChoirStalls x = Check.taught("beast b grim " + (quality - pleasure) / 2 + " fine 1;carver c skill 9 pace 1;stall s oak " + oak
                + ";bishop p grim 0 from 0;carve b on s by c;");
        x.setDamp(0);
        Check.same("carved", x.pass((oak * 2 + 8) / 9), 1);
        Check.same("pleasure", x.pleasure(0), pleasure);
        return x.count(10);
    }

    private static void tenOfPleasure() {
        Check.same("coins of 0", coinsOf(0), 0);
        Check.same("coins of 9", coinsOf(9), 0);
        Check.same("coins of 10", coinsOf(10), 1);
        Check.same("coins of 11", coinsOf(11), 1);
        ChoirStalls x = Check.taught("stall s oak 1;stall t oak 1;stall u oak 1;stall v oak 1;bishop p grim 0 from 0;");
        x.pass(120);
        Check.same("pleasure", x.pleasure(0), -12);
        Check.same("coins of -12", x.count(10), 0);
    }

    private static void tenths() {
        for (int pleasure = 1; pleasure <= 26; pleasure++) {
            Check.same("coins of " + pleasure, coinsOf(pleasure), pleasure / 10);
        }
        StringBuilder all = new StringBuilder("beast b grim 4 fine 1;carver c skill 9 pace 1 likes b;bishop p grim 4 from 0;");
        for (int i = 0; i < 10; i++) {
            all.append("stall s").append(i).append(" oak 1;carve b on s").append(i).append(" by c;");
        }
        ChoirStalls x = Check.taught(all.toString());
        x.setDamp(0);
        int coins = 0;
        for (int stalls = 1; stalls <= 10; stalls++) {
            x.pass(1);
            coins += 31 * stalls / 10;
            Check.same("coins of " + stalls + " stalls", x.count(10), coins);
        }
        Check.same("the greatest pleasure", x.pleasure(0), 310);
        x.pass(1);
        Check.same("31 coins a day", x.count(10), coins + 31);
    }

    private static void bishopOfTheDay() {
        // p likes it, q does not; none on day 0; q is there from day 2 on.
        ChoirStalls x = Check.taught("beast b grim 9 fine 1;carver c skill 9 pace 1;stall s oak 2;bishop p grim 9 from 1;"
                + "bishop q grim 1 from 2;carve b on s by c;");
        int[] coins = {0, 2, 2, 2};
        for (int day = 0; day < coins.length; day++) {
            x.pass(1);
            Check.same("coins behind day " + day, x.count(10), coins[day]);
        }
        Check.same("q is pleased by 9", x.pleasure(1), 9);
        ChoirStalls y = Check.taught("beast b grim 9 fine 1;carver c skill 9 pace 1;stall s oak 2;carve b on s by c;");
        y.pass(9);
        Check.same("without a bishop", y.count(10), 0);
    }

    private static void coinsBehindRustAndWorms() {
        // A pleasure of 12 that falls to 9 on the day on which the stall begins to squeak.
        ChoirStalls x = Check.taught("beast b grim 7 fine 1;carver c skill 9 pace 1;stall s oak 9;bishop p grim 4 from 0;"
                + "carve b on s by c;");
        x.setDamp(4);
        x.pass(7);
        Check.same("pleasure", x.pleasure(0), 12);
        Check.same("from the day 1 on", x.count(10), 6);
        x.pass(1);
        Check.same("it squeaks", x.pleasure(0), 9);
        Check.same("no coin on that day", x.count(10), 6);
        x.oil(0);
        x.pass(1);
        Check.same("oiled", x.count(10), 7);
        // A pleasure of 10 that falls to 9 on the day on which the 30th worm comes.
        ChoirStalls y = Check.taught("beast b grim 0 fine 1;carver c skill 9 pace 1;stall s oak 1;bishop p grim 8 from 0;"
                + "carve b on s by c;oil s;");
        y.setDamp(2);
        y.pass(29);
        Check.same("29 worms", y.stall(0, 3), 29);
        Check.same("coins", y.count(10), 29);
        y.pass(1);
        Check.same("30 worms", y.stall(0, 3), 30);
        Check.same("no coin on that day", y.count(10), 29);
    }

    private static void dayInTheSteps() {
        ChoirStalls x = Check.taught(HEAD + "carve b on s by c when day=1;oil t when day=4;");
        Check.same("day", x.count(0), 0);
        Check.same("carved on day 0", x.pass(1), 0);
        Check.same("day", x.count(0), 1);
        Check.same("carved on day 1", x.pass(1), 1);
        Check.same("day", x.count(0), 2);
        x.pass(2);
        Check.same("rust of days 0 and 3", x.stall(1, 4), 2);
        x.pass(1);
        Check.same("oiled on day 4", x.stall(1, 4), 0);
        x.pass(120);
        Check.same("day", x.count(0), 125);
    }
}
