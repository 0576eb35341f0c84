/** Edges of '1. The language', the errors: how many there may be of each kind, and which error is told. */
public final class ErrorEdgesTest {
    private static final String BASE = "beast b grim 1 fine 1;carver c skill 1 pace 1;stall s oak 1;bishop p grim 1 from 0;";

    public static void main(String[] args) {
        String many = "the token that would be the 401st (the end of the tape not counted)";
        Check.sentence("Errors, error 1", many, ErrorEdgesTest::fourHundredTokens);
        Check.sentence("Errors, error 1", many, ErrorEdgesTest::oneMore);
        Check.sentence("Errors, error 1", many, ErrorEdgesTest::endBehindFourHundred);
        Check.sentence("Errors, error 1", "a word or number that is too long", ErrorEdgesTest::tooLong);
        Check.sentence("Errors, error 1", "the end of the tape (at its length)", ErrorEdgesTest::endOfTape);
        Check.sentence("Errors, error 1", "The position is that of its first byte.", ErrorEdgesTest::firstByte);
        Check.sentence("Errors", "Only if there is no error 1", ErrorEdgesTest::errorOneGoesAhead);
        Check.sentence("Errors", "from left to right, and the first error is told, at its token", ErrorEdgesTest::leftToRight);
        Check.sentence("Errors", "of errors at one token the one with the smallest number", ErrorEdgesTest::twoErrorsAtOneToken);
        Check.sentence("Errors, error 2", "is that of one of the same sort told ahead", ErrorEdgesTest::toldTwice);
        Check.sentence("Errors, error 3", "behind likes and carve, and the second one behind bears, of a beast", ErrorEdgesTest::noBeast);
        Check.sentence("Errors, error 3", "behind by of a carver", ErrorEdgesTest::noCarver);
        Check.sentence("Errors, error 3", "behind on, oil, squeaks, quality, worms and rust, and the first one behind bears, of a stall",
                ErrorEdgesTest::noStall);
        Check.sentence("Errors, error 3", "another name is none of what it has to be, told ahead", ErrorEdgesTest::toldBehind);
        Check.sentence("Errors, error 4", "the name of the 9th beast", () -> most("beast b# grim 1 fine 1;", 8, 6));
        Check.sentence("Errors, error 4", "of the 6th carver", () -> most("carver c# skill 1 pace 1;", 5, 7));
        Check.sentence("Errors, error 4", "of the 11th stall", () -> most("stall s# oak 1;", 10, 6));
        Check.sentence("Errors, error 4", "of the 7th bishop", () -> most("bishop p# grim 1 from 1;", 6, 7));
        Check.sentence("Errors, error 4", "the carve or oil of the 21st order (of both together)", ErrorEdgesTest::orders);
        Check.sentence("Errors, error 4", "the name of the 9th beast", ErrorEdgesTest::allAtTheirMost);
        Check.sentence("Errors, error 5", "grim 0 to 9", () -> range("beast x grim # fine 1;", 0, 9));
        Check.sentence("Errors, error 5", "grim 0 to 9", () -> range("bishop x grim # from 0;", 0, 9));
        Check.sentence("Errors, error 5", "fine 1 to 9", () -> range("beast x grim 1 fine #;", 1, 9));
        Check.sentence("Errors, error 5", "skill 1 to 9", () -> range("carver x skill # pace 1;", 1, 9));
        Check.sentence("Errors, error 5", "pace 1 to 4", () -> range("carver x skill 1 pace #;", 1, 4));
        Check.sentence("Errors, error 5", "oak 1 to 9", () -> range("stall x oak #;", 1, 9));
        Check.sentence("Errors, error 5", "from 0 to 999", () -> range("bishop x grim 1 from #;", 0, 999));
        Check.sentence("Errors, error 5", "a number is out of its range", ErrorEdgesTest::othersHaveNoRange);
        Check.sentence("Errors", "are numbered from 0 in the order in which they are told", ErrorEdgesTest::numbered);
        Check.finish("ErrorEdgesTest");
    }

    private static void error(String list, int error, int at) {
        TokenEdgesTest.error(list, error, at);
    }

    private static void fits(String list) {
        TokenEdgesTest.fits(list);
    }

    /** The error behind BASE, at this place behind it. */
    private static void behind(String list, int error, int at) {
        error(BASE + list, error, BASE.length() + at);
    }

    /** A list of just so many tokens: 12 and two for each one that is added, and one for a - in front. */
    private static String listOf(int tokens) {
        int added = (tokens - 10) / 2 - 1;
        String minus = tokens % 2 == 0 ? "" : "-";
        return "stall a oak 1;oil a when " + minus + "1" + "+1".repeat(added) + "<1;";
    }

    private static void fourHundredTokens() {
        for (int tokens = 395; tokens <= 400; tokens++) {
            fits(listOf(tokens));
            fits(listOf(tokens) + " \n ");
            fits("\n " + listOf(tokens));
        }
        String full = " ".repeat(2000 - listOf(400).length());
        fits(listOf(400) + full);
        fits(full + listOf(400));
    }

    private static void oneMore() {
        for (int tokens = 401; tokens <= 405; tokens++) {
            String list = listOf(tokens);
            // The last ones are + 1 < 1 ; or what is cut of them: one byte each.
            error(list, 1, list.length() - (tokens - 400));
        }
        String list = listOf(400);
        error(list + "oil a;", 1, list.length());
        error(list + " \n oil nobody;", 1, list.length() + 3);
        error(list + "?", 1, list.length());
        error(list + " ?", 1, list.length() + 1);
        error(list + ";", 1, list.length());
        error(list + "abcdefghijk", 1, list.length());
        error(list + "stall b oak 1;", 1, list.length());
        error("? " + list + list, 1, 0);
        error(listOf(399) + "; ;", 1, listOf(399).length());
    }

    private static void endBehindFourHundred() {
        // 400 tokens without the last sign of a list: the end is told, not a 401st.
        String cut = listOf(401).substring(0, listOf(401).length() - 1);
        error(cut, 1, cut.length());
        error(cut + "  ", 1, cut.length() + 2);
        cut = listOf(400).substring(0, listOf(400).length() - 1);
        error(cut, 1, cut.length());
        error(cut + " \n", 1, cut.length() + 2);
    }

    private static void tooLong() {
        error("abcdefghijk", 1, 0);
        error("stall abcdefghijk oak 1;", 1, 6);
        fits("stall abcdefghij oak 1;");
        error("stall a oak 1234567;", 1, 12);
        error("stall a oak 123456;", 5, 12);
        error("stall a oak 0000001;", 1, 12);
        fits("stall a oak 000001;");
        error("stall a oak 10;oil a when 1<0000001;", 1, 28);
        behind("oil abcdefghijk;", 1, 4);
        behind("oil abcdefghij;", 3, 4);
    }

    private static void endOfTape() {
        error("stall", 1, 5);
        error("stall a oak 1", 1, 13);
        error("stall a oak 1  \n", 1, 16);
        error(" ".repeat(1995) + "stall", 1, 2000);
        error("stall" + " ".repeat(1995), 1, 2000);
        error(" ".repeat(1994) + "stall ", 1, 2000);
        fits(" ".repeat(1986) + "stall a oak 1;");
        error(" ".repeat(1987) + "stall a oak 1", 1, 2000);
        fits(" ".repeat(2000));
        ChoirStalls x = new ChoirStalls();
        Check.write(x, "stall a oak 1;oil a;");
        x.trim(19);
        Check.same("cut by trim", x.teach(), 1);
        Check.same("cut by trim, at", x.errorAt(), 19);
        x.trim(0);
        Check.same("cut to nothing", x.teach(), 0);
    }

    private static void firstByte() {
        error("oil", 1, 3);
        error("likes b;", 1, 0);
        error(" likes b;", 1, 1);
        error("stall a squeaks 1;", 1, 8);
        error("stall a\n\n  squeaks 1;", 1, 11);
        error("stall a oak 1;oil a when 1 <= <= 2;", 1, 30);
        behind("oil abcdefghij;", 3, 4);
        behind("oil   abcdefghij;", 3, 6);
        behind("stall   s oak 1;", 2, 8);
        behind("stall x oak   000010;", 5, 14);
        behind("oil s;".repeat(20) + "  carve b on s by c;", 4, 122);
        error("oil a;", 3, 4);
        error(" \n oil a;", 3, 7);
    }

    private static void errorOneGoesAhead() {
        error("stall a oak 10;?", 1, 15);
        error("stall a oak 1;stall a oak 1;oil", 1, 31);
        error("oil nobody;;", 1, 11);
        error("oil nobody when nothing<1;", 1, 16);
        error("stall a oak 0;".repeat(12) + "stall", 1, 173);
        error("beast a grim 99 fine 0", 1, 22);
        behind("oil x when worms x<((((((((((1;", 1, 27);
        behind("stall s oak 1;".repeat(62) + "+", 1, 868);
        error("stall a oak 0" + ";oil b".repeat(140), 1, 13 + 132 * 6);
        error("stall a oak 0;", 5, 12);
        error("oil nobody;", 3, 4);
    }

    private static void leftToRight() {
        behind("oil x;stall s oak 0;", 3, 4);
        behind("stall s oak 0;oil x;", 2, 6);
        behind("stall t oak 0;stall s oak 1;", 5, 12);
        behind("beast x grim 10 fine 0;", 5, 13);
        behind("beast x grim 9 fine 0;", 5, 20);
        behind("beast b grim 10 fine 0;", 2, 6);
        behind("carver d skill 0 pace 0 likes x;", 5, 15);
        behind("carver d skill 1 pace 0 likes x;", 5, 22);
        behind("carver d skill 1 pace 1 likes x;", 3, 30);
        behind("bishop q grim 10 from 1000;", 5, 14);
        behind("bishop q grim 9 from 1000;", 5, 21);
        behind("carve x on x by x when bears x x;", 3, 6);
        behind("carve b on x by x when bears x x;", 3, 11);
        behind("carve b on s by x when bears x x;", 3, 16);
        behind("carve b on s by c when bears x x;", 3, 29);
        behind("carve b on s by c when bears s x;", 3, 31);
        behind("oil x when squeaks x;", 3, 4);
        behind("oil s when squeaks x and rust x<1;", 3, 19);
        behind("oil s when squeaks s and rust x<worms y;", 3, 30);
        behind("oil s when squeaks s and rust s<worms y;", 3, 38);
        behind("oil s;".repeat(20) + "carve x on x by x;", 4, 120);
        behind("oil s;".repeat(19) + "oil x;oil s;", 3, 118);
    }

    private static String lines(String line, int from, int to) {
        StringBuilder all = new StringBuilder();
        for (int i = from; i <= to; i++) {
            all.append(line.replace("#", "" + i));
        }
        return all.toString();
    }

    private static void twoErrorsAtOneToken() {
        String[] kinds = {"beast b# grim 1 fine 1;", "carver c# skill 1 pace 1;", "stall s# oak 1;", "bishop p# grim 1 from 1;"};
        int[] most = {8, 5, 10, 6};
        for (int i = 0; i < kinds.length; i++) {
            String full = lines(kinds[i], 1, most[i]);
            int name = kinds[i].indexOf(' ') + 1;
            error(full + kinds[i].replace("#", "1"), 2, full.length() + name);
            error(full + kinds[i].replace("#", "" + most[i]), 2, full.length() + name);
            error(full + kinds[i].replace("#", "x"), 4, full.length() + name);
        }
    }

    private static void toldTwice() {
        behind("beast b grim 1 fine 1;", 2, 6);
        behind("carver c skill 1 pace 1;", 2, 7);
        behind("stall s oak 1;", 2, 6);
        behind("bishop p grim 1 from 0;", 2, 7);
        fits("beast x grim 1 fine 1;carver x skill 1 pace 1 likes x;stall x oak 1;bishop x grim 1 from 0;carve x on x by x;");
        behind("beast x grim 1 fine 1;stall x oak 1;beast y grim 1 fine 1;beast x grim 1 fine 1;", 2, 64);
        fits("stall s oak 1;stall ss oak 1;stall s0 oak 1;");
    }

    private static void noBeast() {
        for (String name : new String[] {"c", "s", "p", "x", "bb"}) {
            behind("carver d skill 1 pace 1 likes " + name + ";", 3, 30);
            behind("carve " + name + " on s by c;", 3, 6);
            behind("oil s when bears s " + name + ";", 3, 19);
        }
        fits(BASE + "carver d skill 1 pace 1 likes b;carve b on s by c when bears s b;");
    }

    private static void noCarver() {
        for (String name : new String[] {"b", "s", "p", "x", "cc"}) {
            behind("carve b on s by " + name + ";", 3, 16);
        }
        fits(BASE + "carve b on s by c;");
    }

    private static void noStall() {
        for (String name : new String[] {"b", "c", "p", "x", "ss"}) {
            behind("carve b on " + name + " by c;", 3, 11);
            behind("oil " + name + ";", 3, 4);
            behind("oil s when squeaks " + name + ";", 3, 19);
            behind("oil s when quality " + name + "<1;", 3, 19);
            behind("oil s when worms " + name + "<1;", 3, 17);
            behind("oil s when rust " + name + "<1;", 3, 16);
            behind("oil s when bears " + name + " b;", 3, 17);
        }
        fits(BASE + "oil s when squeaks s or quality s+worms s<rust s or bears s b;");
    }

    private static void toldBehind() {
        error("oil s;stall s oak 1;", 3, 4);
        fits("stall s oak 1;oil s;");
        error("carver c skill 1 pace 1 likes b;beast b grim 1 fine 1;", 3, 30);
        fits("beast b grim 1 fine 1;carver c skill 1 pace 1 likes b;");
        error("beast b grim 1 fine 1;stall s oak 1;carve b on s by c;carver c skill 1 pace 1;", 3, 52);
        error("stall s oak 1;oil s when bears s b;beast b grim 1 fine 1;", 3, 33);
        ChoirStalls x = Check.taught(BASE);
        Check.same("told in the list before", Check.teach(x, "oil s;"), 3);
        Check.same("told in the list before, at", x.errorAt(), 4);
        Check.same("an error behind a stall", Check.teach(x, "stall t oak 1;stall u oak 0;"), 5);
        Check.same("told in a list with an error", Check.teach(x, "oil t;"), 3);
        Check.same("told twice, but not in one list", Check.teach(x, BASE), 0);
        Check.same("and once more", Check.teach(x, BASE), 0);
    }

    private static void most(String line, int most, int name) {
        fits(lines(line, 1, most - 1));
        String full = lines(line, 1, most);
        fits(full);
        error(full + line.replace("#", "x"), 4, full.length() + name);
        error(full + line.replace("#", "x") + line.replace("#", "x"), 4, full.length() + name);
        ChoirStalls x = Check.taught(full);
        int kind = line.startsWith("b") ? line.startsWith("be") ? 2 : 5 : line.startsWith("c") ? 3 : 4;
        Check.same("count " + kind, x.count(kind), most);
    }

    private static void orders() {
        for (int carves = 0; carves <= 20; carves++) {
            String full = "carve b on s by c;".repeat(carves) + "oil s;".repeat(20 - carves);
            fits(BASE + full);
            behind(full + "oil s;", 4, full.length());
            behind(full + "carve b on s by c;", 4, full.length());
        }
        String nineteen = "oil s;".repeat(19);
        fits(BASE + nineteen + "stall t oak 1;carve b on t by c;stall u oak 1;");
        behind(nineteen + "oil s;stall t oak 1;oil t;", 4, nineteen.length() + 20);
    }

    private static void allAtTheirMost() {
        String full = lines("beast b# grim 1 fine 1;", 1, 8) + lines("carver c# skill 1 pace 1 likes b1;", 1, 5)
                + lines("stall s# oak 1;", 1, 10) + lines("bishop p# grim 1 from 1;", 1, 6)
                + "oil s10;".repeat(10) + "carve b8 on s10 by c5;".repeat(10);
        ChoirStalls x = Check.taught(full);
        Check.rows("count", new int[] {0, 3, 8, 5, 10, 6, 20, 0, 0, 0, 0, 0, 10, 0}, x::count);
        error(full + "beast b9 grim 1 fine 1;", 4, full.length() + 6);
        error(full + "bishop p7 grim 1 from 1;", 4, full.length() + 7);
        error(full + "oil s1;", 4, full.length());
    }

    private static void range(String line, int least, int most) {
        int at = line.indexOf('#');
        fits(line.replace("#", "" + least));
        fits(line.replace("#", "" + most));
        fits(line.replace("#", ("000000" + most).substring(("" + most).length())));
        error(line.replace("#", "" + (most + 1)), 5, at);
        error(line.replace("#", "999999"), 5, at);
        if (least == 1) {
            error(line.replace("#", "0"), 5, at);
            error(line.replace("#", "000000"), 5, at);
        } else {
            fits(line.replace("#", "000000"));
        }
        for (int number = least; number <= most; number += most > 9 ? 37 : 1) {
            fits(line.replace("#", "" + number));
        }
    }

    private static void othersHaveNoRange() {
        fits(BASE + "oil s when 0<999999 or 1000=10 or 999999-999999=0 or quality s*999999>0;");
    }

    private static void numbered() {
        ChoirStalls x = Check.taught("stall s oak 3;beast b grim 5 fine 2;stall t oak 4;bishop p grim 0 from 0;oil t;"
                + "carver c skill 7 pace 2;beast d grim 6 fine 3;carve d on s by c;carver e skill 8 pace 3 likes d;"
                + "bishop q grim 9 from 2;carve b on t by e;oil s;");
        Check.same("beasts", x.beast(0, 0) * 10 + x.beast(1, 0), 56);
        Check.same("carvers", x.carver(0, 0) * 10 + x.carver(1, 0), 78);
        Check.same("likes", x.carver(1, 2), 1);
        Check.same("stalls", x.stall(0, 0) * 10 + x.stall(1, 0), 34);
        Check.rows("stall of order", new int[] {1, 0, 1, 0}, i -> x.order(i, 1));
        Check.rows("beast of order", new int[] {-1, 1, 0, -1}, i -> x.order(i, 2));
        Check.rows("carver of order", new int[] {-1, 0, 1, -1}, i -> x.order(i, 3));
        Check.same("the bishop of today", x.bishop(), 0);
        x.pass(2);
        Check.same("the bishop of the day 2", x.bishop(), 1);
    }
}
