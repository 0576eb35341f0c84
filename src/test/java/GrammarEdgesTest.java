/** Edges of '1. The language', the grammar and the depth. */
public final class GrammarEdgesTest {
    private static final String BASE = "beast b grim 1 fine 1;carver c skill 1 pace 1;stall s oak 1;";
    private static final String OIL = BASE + "oil s when ";

    /** Each kind of line, and each kind of test and value, in single tokens. */
    private static final String ALL = "beast b grim 1 fine 1 ; carver c skill 1 pace 1 ; carver d skill 1 pace 1 likes b ;"
            + " stall s oak 1 ; bishop p grim 1 from 0 ; carve b on s by c ; carve b on s by d when bears s b ; oil s ;"
            + " oil s when not [ squeaks s or 1 + day - 2 * damp / 3 < coins and quality s > worms s ] ;"
            + " oil s when rust s = - ( 1 ) and 1 <= 2 and min ( 1 , 2 ) >= max ( 3 , 4 ) ;";

    public static void main(String[] args) {
        Check.sentence("Language, errors", "the end of the tape (at its length)", GrammarEdgesTest::eachCut);
        Check.sentence("Language, errors", "the first token with which the tokens so far are not the beginning of a list",
                GrammarEdgesTest::eachToken);
        Check.sentence("Language, test", "single = \"not\" single | \"[\" test \"]\" | \"bears\" name name | \"squeaks\" name",
                GrammarEdgesTest::eachTokenOfATest);
        Check.sentence("Language, sum", "value = number | \"day\" | \"damp\" | \"coins\" | ( \"quality\" | \"worms\" | \"rust\" ) name",
                GrammarEdgesTest::eachTokenOfASum);
        Check.sentence("Language, errors", "the first token with which the tokens so far are not the beginning of a list",
                GrammarEdgesTest::firstOfTwo);
        Check.sentence("Language", "list = { line \";\" }", GrammarEdgesTest::anyNumberOfLines);
        Check.sentence("Language", "[ x ] outside of quotation marks means x or nothing", GrammarEdgesTest::onceOrNot);
        Check.sentence("Language", "{ x } x any number of times, also none", GrammarEdgesTest::anyNumberOfTimes);
        String depth = "It may be at most 8.";
        Check.sentence("Language, depth", "It is 0 at the beginning", GrammarEdgesTest::depthOfEachTest);
        Check.sentence("Language, depth", "1 greater between a ( and its )", () -> deepest("(", "1", ")", "<2", 0));
        Check.sentence("Language, depth", "1 greater between a ( and its )", () -> deepest("min(", "1", ",2)", "<2", 3));
        Check.sentence("Language, depth", "1 greater between a ( and its )", () -> deepest("max(1,", "1", ")", "<2", 3));
        Check.sentence("Language, depth", "a [ and its ]", () -> deepest("[", "1<2", "]", "", 0));
        Check.sentence("Language, depth", "behind a - in front (of a value) for what it turns", () -> deepest("-", "1", "", "<2", 0));
        Check.sentence("Language, depth", "behind a not for what it turns", () -> deepest("not ", "1<2", "", "", 0));
        Check.sentence("Language, depth", depth, GrammarEdgesTest::mixed);
        Check.sentence("Language, depth", depth, GrammarEdgesTest::onTheRightSide);
        Check.sentence("Language, depth", "1 greater between a ( and its ), a [ and its ]", GrammarEdgesTest::backAgain);
        Check.sentence("Language, depth", "behind a - in front (of a value) for what it turns", GrammarEdgesTest::turnedOnly);
        Check.sentence("Language, depth", "behind a not for what it turns", GrammarEdgesTest::notOnly);
        Check.sentence("Language, errors", "the (, [, - or not behind which the depth would be 9", GrammarEdgesTest::nine);
        Check.finish("GrammarEdgesTest");
    }

    private static void error(String list, int error, int at) {
        TokenEdgesTest.error(list, error, at);
    }

    private static void fits(String list) {
        TokenEdgesTest.fits(list);
    }

    /** The test fits no more at this place of its own. */
    private static void testError(String test, int at) {
        error(OIL + test + ";", 1, OIL.length() + at);
    }

    private static void testFits(String test) {
        fits(OIL + test + ";");
    }

    private static void eachCut() {
        String[] tokens = ALL.split(" ");
        StringBuilder list = new StringBuilder();
        for (String token : tokens) {
            list.append(token);
            boolean whole = token.equals(";");
            error(list.toString(), whole ? 0 : 1, whole ? -1 : list.length());
            list.append("\n ");
            error(list.toString(), whole ? 0 : 1, whole ? -1 : list.length());
        }
    }

    private static final String TOKENS = "beast grim fine carver skill pace likes stall oak bishop from carve on by oil when"
            + " day damp quality worms rust coins bears squeaks not and or min max name 7"
            + " ( ) [ ] ; , + - * / < > = <= >= 1234567 abcdefghijk ?";
    private static final String VALUES = " 7 day damp coins quality worms rust - ( min max ";
    private static final String SINGLES = VALUES + "not [ bears squeaks ";
    private static final String COMPARES = " < > = <= >= ";
    private static final String REACHES = " + - * / ";
    private static final String JOINS = " and or ";

    /** Behind this beginning just these tokens fit; all others are the error. */
    private static void fitting(String beginning, String tokens) {
        for (String token : TOKENS.split(" ")) {
            String list = beginning + " " + token;
            ChoirStalls x = new ChoirStalls();
            int error = Check.teach(x, list);
            boolean fits = error != 1 || x.errorAt() != beginning.length() + 1;
            Check.same("that it fits, in " + list, fits, (" " + tokens + " ").contains(" " + token + " "));
        }
    }

    private static void eachToken() {
        fitting("", "beast carver stall bishop carve oil");
        fitting("stall s oak 1;", "beast carver stall bishop carve oil");
        String[] lines = {"beast name grim 7 fine 7 ;", "carver name skill 7 pace 7", "stall name oak 7 ;",
            "bishop name grim 7 from 7 ;", "carve name on name by name", "oil name"};
        for (String line : lines) {
            for (int at = line.indexOf(' '); at > 0; at = line.indexOf(' ', at + 1)) {
                fitting(line.substring(0, at), (line + " ").substring(at + 1, (line + " ").indexOf(' ', at + 1)));
            }
        }
        fitting("carver c skill 1 pace 1", "likes ;");
        fitting("carver c skill 1 pace 1 likes", "name");
        fitting("carver c skill 1 pace 1 likes b", ";");
        fitting("carve b on s by c", "when ;");
        fitting("carve b on s by c when", SINGLES);
        fitting("oil s", "when ;");
    }

    private static void eachTokenOfATest() {
        for (String ahead : new String[] {"oil s when", "oil s when not", "oil s when [", "oil s when 1<2 and", "oil s when 1<2 or"}) {
            fitting(ahead, SINGLES);
            fitting(ahead + " 1", REACHES + COMPARES);
            fitting(ahead + " 1 <", VALUES);
            fitting(ahead + " 1 < 2", REACHES + JOINS + (ahead.endsWith("[") ? "]" : ";"));
            fitting(ahead + " bears", "name");
            fitting(ahead + " bears s", "name");
            fitting(ahead + " bears s b", JOINS + (ahead.endsWith("[") ? "]" : ";"));
            fitting(ahead + " squeaks", "name");
            fitting(ahead + " squeaks s", JOINS + (ahead.endsWith("[") ? "]" : ";"));
            fitting(ahead + " [ 1 < 2 ]", JOINS + (ahead.endsWith("[") ? "]" : ";"));
        }
        for (String compares : new String[] {"<", ">", "=", "<=", ">="}) {
            fitting("oil s when 1 " + compares, VALUES);
            fitting("oil s when 1 " + compares + " 2", REACHES + JOINS + ";");
        }
    }

    private static void eachTokenOfASum() {
        for (String ahead : new String[] {"", " -", " 1 +", " 1 -", " 1 *", " 1 /"}) {
            fitting("oil s when (" + ahead, VALUES);
            fitting("oil s when (" + ahead + " 1", REACHES + ")");
            fitting("oil s when (" + ahead + " day", REACHES + ")");
            fitting("oil s when (" + ahead + " quality", "name");
            fitting("oil s when (" + ahead + " worms", "name");
            fitting("oil s when (" + ahead + " rust", "name");
            fitting("oil s when (" + ahead + " rust s", REACHES + ")");
            fitting("oil s when (" + ahead + " ( 1 )", REACHES + ")");
            fitting("oil s when (" + ahead + " min", "(");
            fitting("oil s when (" + ahead + " max", "(");
            fitting("oil s when (" + ahead + " min (", VALUES);
            fitting("oil s when (" + ahead + " min ( 1", REACHES + ",");
            fitting("oil s when (" + ahead + " max ( 1 ,", VALUES);
            fitting("oil s when (" + ahead + " max ( 1 , 2", REACHES + ")");
            fitting("oil s when (" + ahead + " max ( 1 , 2 )", REACHES + ")");
        }
        fitting("oil s when 1 + 2", REACHES + COMPARES);
        fitting("oil s when ( 1 )", REACHES + COMPARES);
    }

    private static void firstOfTwo() {
        error("stall ; ?", 1, 6);
        error("stall a oak ; abcdefghijk", 1, 12);
        error("stall a oak 1 1234567;", 1, 14);
        error("? stall", 1, 0);
        error("stall a ? 1234567", 1, 8);
        error(OIL + "((((((((?(", 1, OIL.length() + 8);
        error(OIL + "((((((((((?", 1, OIL.length() + 8);
    }

    private static void anyNumberOfLines() {
        fits("");
        fits("stall a oak 1;");
        fits("stall a oak 1;stall b oak 1;");
        fits("stall a oak 1;" + "oil a;".repeat(20));
        error(";", 1, 0);
        error("stall a oak 1;;", 1, 14);
        error(";stall a oak 1;", 1, 0);
        error("stall a oak 1 stall b oak 1;", 1, 14);
        error("stall a oak 1;stall b oak 1", 1, 27);
        error("stall a oak 1,", 1, 13);
    }

    private static void onceOrNot() {
        fits("beast b grim 1 fine 1;carver c skill 1 pace 1;");
        fits("beast b grim 1 fine 1;carver c skill 1 pace 1 likes b;");
        error("beast b grim 1 fine 1;carver c skill 1 pace 1 likes b likes b;", 1, 54);
        error("beast b grim 1 fine 1;carver c skill 1 pace 1 likes b b;", 1, 54);
        fits(BASE + "oil s;");
        testFits("1<2");
        testError("1<2 when 1<2", 4);
        fits(BASE + "carve b on s by c;");
        fits(BASE + "carve b on s by c when 1<2;");
        error(BASE + "carve b on s by c when;", 1, BASE.length() + 22);
        error(BASE + "stall t oak 1 when 1<2;", 1, BASE.length() + 14);
    }

    private static void anyNumberOfTimes() {
        testFits("1<2");
        testFits("1<2 and 1<2");
        testFits("1<2 or 1<2");
        testFits("1<2" + " and 1<2".repeat(60));
        testFits("1<2" + " or 1<2".repeat(60));
        testFits("1<2" + " or 1<2 and 1<2".repeat(30));
        testFits("1" + "+1".repeat(150) + "<2");
        testFits("1" + "-1".repeat(150) + "<2");
        testFits("1" + "*1".repeat(150) + "<2");
        testFits("1" + "/1".repeat(150) + "<2");
        testFits("1<2" + "+1*2".repeat(70));
        testError("1<2 and", 7);
        testError("1<2 or", 6);
        testError("and 1<2", 0);
        testError("1<2<3", 3);
        testError("1+<2", 2);
        testError("1*<2", 2);
        testError("1 1<2", 2);
        testError("1<2 1<2", 4);
        testError("1<2 and or 1<2", 8);
    }

    /** Eight of them fit, the ninth is the error: at its sign, so many bytes behind its beginning. */
    private static void deepest(String open, String inside, String close, String behind, int sign) {
        for (int depth = 1; depth <= 8; depth++) {
            testFits(open.repeat(depth) + inside + close.repeat(depth) + behind);
        }
        testError(open.repeat(9) + inside + close.repeat(9) + behind, 8 * open.length() + sign);
        testError(open.repeat(10) + inside + close.repeat(10) + behind, 8 * open.length() + sign);
        testError(open.repeat(9), 8 * open.length() + sign);
    }

    private static void depthOfEachTest() {
        String deep = "((((((((1))))))))";
        testFits(deep + "<" + deep);
        testFits(deep + "<2;oil s when " + deep + "<2");
        testFits("[[[[[[[[1<2]]]]]]]];oil s when --------1<2;oil s when " + "not ".repeat(8) + "1<2;oil s when " + deep + "=1");
    }

    private static void mixed() {
        testFits("not [not [not [not (1)<2]]]");
        testFits("not[-(-(min(1,(2))))<3]");
        testFits("not[-(-(min(1,-2)))<3]");
        testError("not[-(-(min(1,-(2))))<3]", 15);
        testError("not[-(-(min(1,((2)))))<3]", 15);
        testError("not[-(-(min(1,--2)))<3]", 15);
        testFits("not[-(-(min(1,min(2,3))))<3]");
        testError("not[-(-(min(1,min(2,(3)))))<3]", 20);
        testFits("[[[[[[[not 1<2]]]]]]]");
        testError("[[[[[[[not not 1<2]]]]]]]", 11);
        testError("[[[[[[[not [1<2]]]]]]]]", 11);
        testError("[[[[[[[not -1<2]]]]]]]", 11);
        testError("[[[[[[[not 1<(2)]]]]]]]", 13);
    }

    private static void onTheRightSide() {
        testFits("1<((((((((2))))))))");
        testError("1<(((((((((2)))))))))", 10);
        testFits("1+((((((((2))))))))<1*((((((((2))))))))");
        testError("1+((((((((2))))))))<1*(((((((((2)))))))))", 30);
        testFits("1<2 or [[[[[[[[1<2]]]]]]]] and [[[[[[[[1<2]]]]]]]]");
        testError("1<2 or [[[[[[[[1<2]]]]]]]] and [[[[[[[[[1<2]]]]]]]]]", 39);
        testFits("min(1,(((((((2))))))))<3");
        testError("min(1,((((((((2)))))))))<3", 13);
        testFits("min((((((((1))))))),(((((((2))))))))<3");
        testError("min((((((((1))))))),((((((((2)))))))))<3", 27);
    }

    private static void backAgain() {
        testFits("(1)+(1)+(1)+(1)+(1)+(1)+(1)+(1)+(1)+(1)<2");
        testFits("(((1))+((1))+((1)))*(((((((1)))))))<((((((((2))))))))");
        testFits("[1<2] and [1<2] or [1<2] and [1<2] or [1<2] and [1<2] or [1<2] and [1<2] or [1<2] and [1<2]");
        testFits("[[1<2] or [[[[[[[1<2]]]]]]]] and ((((((((1))))))))<2");
        testFits("min(1,2)+min(1,2)+min(1,2)+min(1,2)+min(1,2)+min(1,2)+min(1,2)+min(1,2)+min(1,2)<((((((((2))))))))");
    }

    private static void turnedOnly() {
        testFits("1-1-1-1-1-1-1-1-1-1-1-1<2");
        testFits("-1-((((((((1))))))))<2");
        testFits("-1+-1+-1+-1+-1+-1+-1+-1+-1+-1<2");
        testFits("-1*((((((((1))))))))<2");
        testFits("-1<((((((((2))))))))");
        testFits("--------1<--------2 and --------1<--------2");
        testFits("-(((((((1)))))))<2");
        testError("-((((((((1))))))))<2", 8);
        testError("((((((((-1))))))))<2", 8);
        testFits("((((((((1-1-1))))))))<2");
        testFits("-quality s<2 and ((((((((1))))))))<2");
        testFits("1---------1<2");
        testError("1----------1<2", 10);
    }

    private static void notOnly() {
        testFits("not 1<2 and [[[[[[[[1<2]]]]]]]]");
        testFits("not 1<2 or ((((((((1))))))))<2");
        testFits("not 1<2 and not 1<2 and not 1<2 and not 1<2 and not 1<2 and not 1<2 and not 1<2 and not 1<2 and not 1<2");
        testFits("not (((((((1)))))))<2");
        testError("not ((((((((1))))))))<2", 11);
        testFits("not 1<(((((((2)))))))");
        testError("not 1<((((((((2))))))))", 13);
        testFits("not [[[[[[[1<2]]]]]]]");
        testError("not [[[[[[[[1<2]]]]]]]]", 11);
        testFits("not not not not not not not not squeaks s");
        testFits("not not not not not not not not bears s b");
    }

    private static void nine() {
        String eight = "((((((((";
        testError(eight + "(", 8);
        testError(eight + "-", 8);
        testError(eight + "min(", 11);
        testError(eight + "max(", 11);
        testError(eight + "1-(", 10);
        testError("[[[[[[[[" + "[", 8);
        testError("[[[[[[[[" + "not 1<2", 8);
        testError("[[[[[[[[" + "(", 8);
        testError("[[[[[[[[" + "-1", 8);
        testError("[[[[[[[[" + "1<-1", 10);
        testError("not ".repeat(8) + "-1<2", 32);
        testError("not ".repeat(8) + "(1)<2", 32);
        testError("not ".repeat(8) + "[1<2]", 32);
        testError("--------(1)<2", 8);
    }
}
