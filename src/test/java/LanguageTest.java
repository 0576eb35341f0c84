/** Promises 1 to 5, the language and its errors. */
public final class LanguageTest {
    private static final String BASE =
            "beast b grim 1 fine 1; carver c skill 1 pace 1; stall s oak 1; bishop p grim 1 from 0; ";

    private static final String TWICE = "beast b grim 1 fine 9; carver c skill 2 pace 1; stall s oak 9;"
            + " bishop p grim 1 from 0; carve b on s by c; oil s when bears s b or rust s > 5;";

    public static void main(String[] args) {
        newObject();
        feedAndTrim();
        teachReplacesOrKeeps();
        tokens();
        grammar();
        depth();
        manyTokens();
        names();
        tooMany();
        ranges();
        whichErrorIsTold();
        Check.finish("LanguageTest");
    }

    private static void newObject() {
        ChoirStalls x = new ChoirStalls();
        for (int what = 0; what < 14; what++) {
            Check.same("new count " + what, x.count(what), what == 1 ? 3 : 0);
        }
        Check.same("new errorAt", x.errorAt(), -1);
        Check.same("new bishop", x.bishop(), -1);
        Check.same("new mean", x.mean(), 0.0);
        Check.same("new pass", x.pass(120), 0);
        Check.same("new day", x.count(0), 120);
    }

    private static void feedAndTrim() {
        ChoirStalls x = new ChoirStalls();
        for (int i = 1; i <= 99; i++) {
            Check.same("feed " + i, x.feed(0, 0, 0, 0, 0), 20 * i);
        }
        Check.same("trim to all", x.trim(1980), 1980);
        Check.same("feed to the end", x.feed(-1, -1, -1, -1, -1), 2000);
        Check.refuses(x, "feed past the end", IllegalStateException.class, () -> x.feed(0, 0, 0, 0, 0));
        Check.refuses(x, "trim -1", IllegalArgumentException.class, () -> x.trim(-1));
        Check.refuses(x, "trim 2001", IllegalArgumentException.class, () -> x.trim(2001));
        Check.refuses(x, "trim MIN", IllegalArgumentException.class, () -> x.trim(Integer.MIN_VALUE));
        Check.refuses(x, "trim MAX", IllegalArgumentException.class, () -> x.trim(Integer.MAX_VALUE));
        Check.same("trim", x.trim(1981), 1981);
        Check.refuses(x, "feed from 1981", IllegalStateException.class, () -> x.feed(0, 0, 0, 0, 0));
        Check.same("bytes", x.count(13), 1981);
        Check.same("trim to none", x.trim(0), 0);
        Check.refuses(x, "trim 1 of none", IllegalArgumentException.class, () -> x.trim(1));
        Check.same("feed again", x.feed(('o' << 24) + ('i' << 16) + ('l' << 8) + ' ', -1, 0, 0, 0), 20);
        Check.same("the highest byte is first", x.teach(), 1);
        Check.same("the highest byte is first, at", x.errorAt(), 4);
    }

    private static void teachReplacesOrKeeps() {
        ChoirStalls x = Check.taught("beast b grim 2 fine 1; carver c skill 9 pace 1; stall s oak 1; stall t oak 1;"
                + " bishop p grim 2 from 0; carve b on s by c;");
        x.setDamp(5);
        x.pass(40);
        Check.same("coins", x.count(10) > 0, true);
        Check.same("carved", x.count(11), 1);
        int coins = x.count(10);
        long before = x.digest();
        Check.same("teach with an error", Check.teach(x, "beast b"), 1);
        Check.same("all stays", x.digest(), before);
        Check.same("the tape is empty", x.count(13), 0);
        Check.same("errorAt", x.errorAt(), 7);
        Check.same("teach with an error 5", Check.teach(x, "beast z grim 5 fine 0;"), 5);
        Check.same("all stays", x.digest(), before);
        Check.same("coins stay", x.count(10), coins);
        Check.same("teach", Check.teach(x, "beast z grim 5 fine 4; carver d skill 2 pace 2; stall u oak 6;"
                + " carve z on u by d;"), 0);
        Check.same("errorAt without", x.errorAt(), -1);
        int[] due = {40, 5, 1, 1, 1, 0, 1, 0, 0, 0, 0, 0, 1, 0};
        for (int what = 0; what < 14; what++) {
            Check.same("count behind teach " + what, x.count(what), due[what]);
        }
        Check.same("rust is new", x.stall(0, 4), 0);
        Check.same("work is new", x.order(0, 4), 0);
        Check.same("no beast", x.stall(0, 1), -1);
        Check.same("nothing carved by", x.carver(0, 4), 0);
        Check.same("no quality", x.stall(0, 2), 0);
        Check.same("the same list", Check.teach(x, TWICE), 0);
        x.pass(2);
        Check.same("work", x.order(0, 4), 4);
        Check.same("the same list twice", Check.teach(x, TWICE), 0);
        Check.same("and once more", Check.teach(x, TWICE), 0);
        Check.same("work is new", x.order(0, 4), 0);
        Check.same("tests are anew", x.order(1, 5), 0);
        Check.same("orders", x.count(6), 2);
        Check.same("carvers", x.count(3), 1);
        Check.same("bishops", x.count(5), 1);
        Check.same("an empty tape is a list", x.teach(), 0);
        Check.same("without stalls", x.count(4), 0);
    }

    /** A list behind BASE: the error, and where behind BASE it is. */
    private static void error(String text, int error, int at) {
        ChoirStalls x = new ChoirStalls();
        Check.same("teach " + text, Check.teach(x, BASE + text), error);
        Check.same("errorAt " + text, x.errorAt(), error == 0 ? -1 : BASE.length() + at);
    }

    private static void fits(String text) {
        error(text, 0, -1);
    }

    private static void holds(String test, int due) {
        ChoirStalls x = Check.taught(BASE + "oil s when " + test + ";");
        Check.same(test, x.order(0, 5), due);
    }

    private static void tokens() {
        fits("  \n\n beast\nx grim\n1 fine 2\n;\n");
        fits("beast x grim 1fine 2;");
        fits("beast x grim 000009fine 000001;");
        error("beast x grim 0000001 fine 1;", 1, 13);
        fits("beast abcdefghij grim 1 fine 1;");
        fits("beast a234567890 grim 1 fine 1;");
        error("beast abcdefghijk grim 1 fine 1;", 1, 6);
        error("beastx grim 1 fine 1;", 1, 0);
        fits("beast beast1 grim 1 fine 1;");
        error("beast fine grim 1 fine 1;", 1, 6);
        error("beast 1a grim 1 fine 1;", 1, 6);
        error("beast X grim 1 fine 1;", 1, 6);
        error("beast xY grim 1 fine 1;", 1, 7);
        error("beast x\tgrim 1 fine 1;", 1, 7);
        error("beast x\rgrim 1 fine 1;", 1, 7);
        error("beast \u00e4 grim 1 fine 1;", 1, 6);
        error("beast x\u00ff grim 1 fine 1;", 1, 7);
        error("beast x\0 grim 1 fine 1;", 1, 7);
        error("#", 1, 0);
        error("oil s when 1 < = 2;", 1, 15);
        error("oil s when 1 =< 2;", 1, 14);
        error("oil s when 1 => 2;", 1, 14);
        fits("oil s when 1<=2and 3>=2or 1<2and 2>1;");
        error("oil s when 1 ! 2;", 1, 13);
        error("oil s when 12345678901 < 2;", 1, 11);
    }

    private static void grammar() {
        error("beast", 1, 5);
        error("beast  \n ", 1, 9);
        error("beast x grim 1 fine 1", 1, 21);
        error("beast x fine 1 grim 1;", 1, 8);
        error("beast x grim 1 fine 1 likes b;", 1, 22);
        error("carver x skill 1 pace 1 likes;", 1, 29);
        error("carver x skill 1 pace 1 b;", 1, 24);
        error("stall x oak;", 1, 11);
        error("bishop x grim 1 fine 1;", 1, 16);
        error("bishop x grim 1;", 1, 15);
        error(";", 1, 0);
        error("fine x;", 1, 0);
        error("carve b on s;", 1, 12);
        error("carve b by c on s;", 1, 8);
        error("carve b on s by c by c;", 1, 18);
        error("oil s on;", 1, 6);
        error("oil s when;", 1, 10);
        error("oil s when day;", 1, 14);
        error("oil s when 1 < 2 < 3;", 1, 17);
        error("oil s when 1 + ;", 1, 15);
        error("oil s when + 1 < 2;", 1, 11);
        error("oil s when (1 < 2);", 1, 14);
        error("oil s when [1 + 2] < 3;", 1, 17);
        error("oil s when (1 + 2] < 3;", 1, 17);
        error("oil s when not 3;", 1, 16);
        error("oil s when min 1, 2 < 3;", 1, 15);
        error("oil s when min(1; 2) < 3;", 1, 16);
        error("oil s when min(1) < 3;", 1, 16);
        error("oil s when max(1, 2, 3) < 3;", 1, 19);
        error("oil s when bears s;", 1, 18);
        error("oil s when bears s b b;", 1, 21);
        error("oil s when squeaks;", 1, 18);
        error("oil s when squeaks s < 1;", 1, 21);
        error("oil s when bears s b and;", 1, 24);
        error("oil s when or bears s b;", 1, 11);
        error("oil s when rust < 1;", 1, 16);
        error("oil s when 1 < bears s b;", 1, 15);
        fits("oil s when not bears s b and not [squeaks s or min(day, -damp) <= max(coins, quality s)];");
        fits("oil s when worms s*2/3-rust s+1>=(day);");
        meaning();
        choirInTests();
    }

    private static void meaning() {
        holds("1 + 2 * 3 = 7", 1);
        holds("10 - 3 - 2 = 5", 1);
        holds("100 / 10 / 5 = 2", 1);
        holds("(1 + 2) * 3 = 9", 1);
        holds("-7 / 2 = -3", 1);
        holds("7 / -2 = -3", 1);
        holds("5 / 0 = 0", 1);
        holds("0 / 0 = 0", 1);
        holds("-2 - -3 = 1", 1);
        holds("-2 * 3 = -6", 1);
        holds("999999 * 999999 = -(729380 * 1000 - 33)", 1);
        holds("65536 * 32768 < 0", 1);
        holds("65536 * 32768 / -1 = 65536 * 32768", 1);
        holds("-(65536 * 32768) = 65536 * 32768", 1);
        holds("65536 * 32768 - 1 > 0", 1);
        holds("min(3, 2) = 2", 1);
        holds("max(3, 2) = 3", 1);
        holds("min(-3, 2) + max(-3, -4) = -6", 1);
        holds("damp = 3 and day = 0 and coins = 0", 1);
        holds("2 < 2", 0);
        holds("2 <= 2", 1);
        holds("2 > 2", 0);
        holds("2 >= 2", 1);
        holds("3 = 2", 0);
        holds("1 = 1 or 1 = 1 and 1 = 2", 1);
        holds("1 = 2 and 1 = 1 or 1 = 1", 1);
        holds("[1 = 1 or 1 = 1] and 1 = 2", 0);
        holds("not 1 = 1 or 1 = 1", 1);
        holds("not 1 = 2 and 1 = 2", 0);
        holds("not [1 = 2 and 1 = 2]", 1);
        holds("not not 1 = 1", 1);
        holds("bears s b or squeaks s", 0);
    }

    /** Whether the test holds behind ten damp days in which c carved b on s, and nothing on t. */
    private static void onTheWay(String test, int due) {
        ChoirStalls x = Check.taught("beast a grim 1 fine 1; beast b grim 1 fine 1; carver c skill 9 pace 1; stall s oak 1;"
                + " stall t oak 9; bishop p grim 1 from 6; carve b on s by c; oil t when day < -1 or day >= 0 and " + test
                + " and day > 9;");
        x.setDamp(5);
        x.pass(9);
        Check.same("the day is 9: " + test, x.order(1, 5), 0);
        x.pass(1);
        Check.same(test, x.order(1, 5), due);
    }

    private static void choirInTests() {
        onTheWay("quality s = 26", 1);
        onTheWay("quality t = 0", 1);
        onTheWay("worms s = 20", 1);
        onTheWay("worms t < 10", 1);
        onTheWay("rust s = 10", 1);
        onTheWay("coins = 8", 1);
        onTheWay("damp = 5", 1);
        onTheWay("bears s b", 1);
        onTheWay("bears s a", 0);
        onTheWay("bears t b", 0);
        onTheWay("bears t a", 0);
        onTheWay("squeaks s", 1);
        onTheWay("not squeaks s", 0);
        onTheWay("not bears s a", 1);
        onTheWay("not bears s b", 0);
        onTheWay("[bears s b and squeaks t and 1 <= 1 and 1 >= 1]", 1);
        onTheWay("3 <= 2", 0);
        onTheWay("2 >= 3", 0);
        onTheWay("[bears s a or not bears s a]", 1);
    }

    private static String times(String text, int count) {
        return text.repeat(count);
    }

    private static void depth() {
        fits("oil s when " + times("(", 8) + "1" + times(")", 8) + " < 2;");
        error("oil s when " + times("(", 9) + "1" + times(")", 9) + " < 2;", 1, 11 + 8);
        fits("oil s when " + times("[", 8) + "1 < 2" + times("]", 8) + ";");
        error("oil s when " + times("[", 9) + "1 < 2" + times("]", 9) + ";", 1, 11 + 8);
        fits("oil s when " + times("-", 8) + "1 < 2;");
        error("oil s when " + times("-", 9) + "1 < 2;", 1, 11 + 8);
        fits("oil s when " + times("not ", 8) + "1 < 2;");
        error("oil s when " + times("not ", 9) + "1 < 2;", 1, 11 + 32);
        fits("oil s when " + times("min(1,", 8) + "1" + times(")", 8) + " < 2;");
        error("oil s when " + times("min(1,", 8) + "min(1, 2)" + times(")", 8) + " < 2;", 1, 11 + 48 + 3);
        error("oil s when " + times("min(", 8) + "-1;", 1, 11 + 32);
        fits("oil s when not [-(min(1, -(-1)) + 1) < 1];");
        error("oil s when not [-(min(1, -(-(1))) + 1) < 1];", 1, 28);
        fits("oil s when 1 < " + times("(", 8) + "1" + times(")", 8) + " and " + times("[", 8) + "1 < 2" + times("]", 8)
                + ";");
        fits("oil s when 1 - 1 - 1 - 1 - 1 - 1 - 1 - 1 - 1 - 1 - 1 < 1;");
        fits("oil s when -1 - -1 - -1 - -1 - -1 - -1 - -1 - -1 - -1 - -1 < 1;");
    }

    private static void manyTokens() {
        // 12 tokens, and 2 for each further number.
        String line = "stall a oak 1; oil a when 1" + times("+1", 193) + "<1;";
        ChoirStalls x = new ChoirStalls();
        Check.same("398 tokens", Check.teach(x, line + "\n "), 0);
        Check.same("400 tokens", Check.teach(x, line.replace("<1;", "+1<1;") + "\n "), 0);
        String over = line.replace("<1;", "+1+1<1;");
        Check.same("402 tokens", Check.teach(x, over), 1);
        Check.same("the 401st token", x.errorAt(), over.length() - 2);
        String behind = line.replace("<1;", "+1<1;") + " ? ";
        Check.same("401 tokens", Check.teach(x, behind), 1);
        Check.same("the 401st token", x.errorAt(), behind.length() - 2);
        String late = line.replace("<1;", "+1<1;") + " oil nobody;";
        Check.same("an error 3 is behind", Check.teach(x, late), 1);
        Check.same("the 401st token is the oil", x.errorAt(), late.length() - 11);
        Check.same("blanks alone", Check.teach(x, times(" ", 2000)), 0);
        Check.same("a long tape", Check.teach(x, times(" \n", 990) + "stall a oak 3;"), 0);
        Check.same("stalls", x.count(4), 1);
        Check.same("the end of a full tape", Check.teach(x, times(" ", 1995) + "stall"), 1);
        Check.same("at its length", x.errorAt(), 2000);
    }

    private static void names() {
        error("beast b grim 1 fine 1;", 2, 6);
        error("carver c skill 1 pace 1;", 2, 7);
        error("stall s oak 1;", 2, 6);
        error("bishop p grim 1 from 1;", 2, 7);
        fits("beast c grim 1 fine 1; carver s skill 1 pace 1; stall p oak 1; bishop b grim 1 from 1;");
        error("carver d skill 1 pace 1 likes c;", 3, 30);
        error("carve c on s by c;", 3, 6);
        error("carve b on b by c;", 3, 11);
        error("carve b on s by s;", 3, 16);
        error("oil p;", 3, 4);
        error("oil b;", 3, 4);
        error("oil s when squeaks b;", 3, 19);
        error("oil s when bears b b;", 3, 17);
        error("oil s when bears s s;", 3, 19);
        error("oil s when quality c < 1;", 3, 19);
        error("oil s when worms c < 1;", 3, 17);
        error("oil s when 1 < rust c;", 3, 20);
        error("oil t; stall t oak 1;", 3, 4);
        error("stall ss oak 1; oil sss;", 3, 20);
        fits("stall t oak 1; oil t when bears t b;");
    }

    private static String lines(String line, int from, int to) {
        StringBuilder all = new StringBuilder();
        for (int i = from; i <= to; i++) {
            all.append(line.replace("#", "" + i));
        }
        return all.toString();
    }

    private static void most(String line, int most, int at) {
        fits(lines(line, 2, most));
        String text = lines(line, 2, most);
        error(text + line.replace("#", "x"), 4, text.length() + at);
    }

    private static void tooMany() {
        most("beast b# grim 1 fine 1;", 8, 6);
        most("carver c# skill 1 pace 1;", 5, 7);
        most("stall s# oak 1;", 10, 6);
        most("bishop b# grim 1 from 1;", 6, 7);
        String twenty = lines("oil s; carve b on s by c;", 1, 10);
        fits(twenty);
        error(twenty + "oil s;", 4, twenty.length());
        error(twenty + "carve b on s by c;", 4, twenty.length());
        String eight = lines("beast b# grim 1 fine 1;", 2, 8);
        error(eight + "beast b grim 1 fine 1;", 2, eight.length() + 6);
        error(twenty + "oil nobody;", 4, twenty.length());
    }

    private static void range(String line, int least, int most, int at) {
        fits(line.replace("#", "" + least));
        fits(line.replace("#", "" + most));
        error(line.replace("#", "" + (most + 1)), 5, at);
        error(line.replace("#", "999999"), 5, at);
        if (least > 0) {
            error(line.replace("#", "0"), 5, at);
        }
    }

    private static void ranges() {
        range("beast x grim # fine 1;", 0, 9, 13);
        range("beast x grim 1 fine #;", 1, 9, 20);
        range("carver x skill # pace 1;", 1, 9, 15);
        range("carver x skill 1 pace #;", 1, 4, 22);
        range("stall x oak #;", 1, 9, 12);
        range("bishop x grim # from 0;", 0, 9, 14);
        range("bishop x grim 1 from #;", 0, 999, 21);
        fits("oil s when 999999 > 0;");
    }

    private static void whichErrorIsTold() {
        error("beast b grim 10 fine 0; oil;", 1, 27);
        error("oil nobody; stall s oak 10;", 3, 4);
        error("beast x grim 10 fine 0; oil nobody;", 5, 13);
        error("beast x grim 1 fine 0; beast b grim 1 fine 1;", 5, 20);
        error("beast b grim 10 fine 1;", 2, 6);
        error("carve x on x by x when squeaks x;", 3, 6);
    }
}
