import java.util.ArrayList;
import java.util.Arrays;
import java.util.List;
import java.util.function.IntConsumer;
import java.util.function.IntUnaryOperator;

/** The sentences of 'The language' that name no edge: what the words of the grammar, and of the errors, say. */
public final class PlainLanguageTest {
    private static final String BASE = "beast b grim 4 fine 2;beast d grim 7 fine 3;carver c skill 5 pace 2;stall s oak 6;stall t oak 8;";

    public static void main(String[] args) {
        Check.sentence("Language", "which feed and trim fill", PlainLanguageTest::onlyFeedAndTrim);
        Check.sentence("Language", "It is a row of tokens.", PlainLanguageTest::rowOfTokens);
        Check.sentence("Language", "| separates alternatives", PlainLanguageTest::oneOfTheAlternatives);
        Check.sentence("Language", "keywords and symbols of the language are in quotation marks", PlainLanguageTest::signsOfTheGrammar);
        Check.sentence("Language, line", "\"beast\" name \"grim\" number \"fine\" number", PlainLanguageTest::beasts);
        Check.sentence("Language, line", "\"carver\" name \"skill\" number \"pace\" number [ \"likes\" name ]", PlainLanguageTest::carvers);
        Check.sentence("Language, line", "\"stall\" name \"oak\" number", PlainLanguageTest::stalls);
        Check.sentence("Language, line", "\"bishop\" name \"grim\" number \"from\" number", PlainLanguageTest::bishops);
        Check.sentence("Language, line", "\"carve\" name \"on\" name \"by\" name [ \"when\" test ]", PlainLanguageTest::carving);
        Check.sentence("Language, line", "\"oil\" name [ \"when\" test ]", PlainLanguageTest::oiling);
        Check.sentence("Language, test", "test = both { \"or\" both }        both = single { \"and\" single }", PlainLanguageTest::tests);
        Check.sentence("Language, sum", "sum = product { ( \"+\" | \"-\" ) product }        product = value { ( \"*\" | \"/\" ) value }",
                PlainLanguageTest::products);
        Check.sentence("Language, value", "\"-\" value | \"(\" sum \")\"", PlainLanguageTest::parentheses);
        Check.sentence("Language, errors", "keywords, names and numbers are looked at from left to right, and the first error is told",
                PlainLanguageTest::firstFault);
        Check.sentence("Language, error 2", "the name behind beast, carver, stall or bishop (at the beginning of a line) is that of one"
                + " of the same sort told ahead", PlainLanguageTest::namesAtTheBeginning);
        Check.sentence("Language, error 5", "Error 5: a number is out of its range", PlainLanguageTest::numbersWithoutARange);
        Check.sentence("Language", "Beasts, carvers, stalls, bishops and orders (lines with carve or oil) are numbered from 0 in the order"
                + " in which they are told.", PlainLanguageTest::numbered);
        Check.finish("PlainLanguageTest");
    }

    private static void error(String list, int error, int at) {
        TokenEdgesTest.error(list, error, at);
    }

    private static void fits(String list) {
        TokenEdgesTest.fits(list);
    }

    private static void holds(String test, boolean due) {
        Check.same(test, Check.taught(BASE + "oil s when " + test + ";").order(0, 5), due ? 1 : 0);
    }

    private static void onlyFeedAndTrim() {
        ChoirStalls x = Check.taught("beast b grim 4 fine 1;carver c skill 9 pace 1;stall s oak 1;bishop p grim 4 from 0;carve b on s by c;");
        String next = "stall u oak 7;oil u when 1<2;";
        Check.write(x, next);
        IntConsumer[] others = {i -> x.errorAt(), i -> x.count(i), i -> x.beast(0, 2), i -> x.carver(0, 3), i -> x.stall(0, i),
            i -> x.order(0, i), i -> x.bishop(), i -> x.pleasure(0), i -> x.worst(0), i -> x.setDamp(i + 4), i -> x.pass(3),
            i -> x.oil(0), i -> x.smoke(0), i -> x.strip(0), i -> x.until(0, 1), i -> x.foresee(30, i), i -> x.advise(9),
            i -> x.spare(9), i -> x.mean(), i -> x.digest()};
        for (int i = 0; i < 2 * others.length; i++) {
            others[i % others.length].accept(i / others.length);
            Check.same("bytes behind call " + i, x.count(13), next.length());
        }
        Check.same("what was fed is read", x.teach(), 0);
        Check.same("to its end", x.stall(0, 0) * 10 + x.order(0, 5), 71);
    }

    private static void rowOfTokens() {
        String list = "beast b grim 4 fine 1 ; carver c skill 9 pace 1 likes b ; stall s oak 1 ; bishop p grim 4 from 0 ; carve b on s by c"
                + " when not [ quality s <= ( 1 + 2 ) * 3 or squeaks s ] ; oil s when min ( rust s , 9 ) >= -1 ;";
        long due = Check.taught(list).digest();
        String tight = list.replaceAll(" ?([^a-z0-9 ]+) ?", "$1");
        Check.same("it is shorter", tight.length() < list.length() - 20, true);
        for (String apart : new String[] {"\n", "  ", " \n", "\n\n \n"}) {
            Check.same("the tokens are the same", Check.taught(list.replace(" ", apart)).digest(), due);
        }
        Check.same("as close as can be", Check.taught(tight).digest(), due);
        error(list.replace(" ", ""), 1, 0);
    }

    private static void oneOfTheAlternatives() {
        error("beast x oak 1;", 1, 8);
        error("carve oil s;", 1, 6);
        error("bishop x grim 1 fine 1;", 1, 16);
        String oil = BASE + "oil s when ";
        String[] both = {"squeaks bears s b", "quality worms s<1", "day damp<1", "1 day<1", "1<>1", "1<=>=1", "1*/1<1", "1+*1<1",
            "min max(1,2)<1", "1<2 and or 1<2", "1<2 or and 1<2", "not and 1<2"};
        int[] places = {8, 8, 4, 2, 2, 3, 2, 2, 4, 8, 7, 4};
        for (int i = 0; i < both.length; i++) {
            error(oil + both[i] + ";", 1, oil.length() + places[i]);
        }
        for (String one : new String[] {"squeaks s", "bears s b", "quality s<1", "worms s<1", "day<1", "damp<1", "1<1", "1>=1", "1*1<1",
            "1/1<1", "min(1,2)<1", "max(1,2)<1", "1<2 and 1<2", "1<2 or 1<2", "not 1<2", "1+1<1", "1-1<1", "rust s=1", "coins<=1"}) {
            fits(oil + one + ";");
        }
    }

    private static void signsOfTheGrammar() {
        error("carver c skill 1 pace 1 [likes b];", 1, 24);
        error("oil s [when 1<2];", 1, 6);
        error("(stall s oak 1);", 1, 0);
        error("[stall s oak 1;]", 1, 0);
        error("{stall s oak 1;}", 1, 0);
        error("stall s oak 1;}", 1, 14);
        error("stall s oak 1 | oil s;", 1, 14);
        error("\"stall\" s oak 1;", 1, 0);
        error("stall s \"oak\" 1;", 1, 8);
        error("stall s oak 1\";\"", 1, 13);
        error("list=stall s oak 1;", 1, 0);
        error("line;", 1, 0);
        error("stall name oak number;", 1, 15);
    }

    /** A line of which no token can be left out: then the one behind it is the error. */
    private static ChoirStalls told(String ahead, String line) {
        String[] tokens = (line + " ;").split(" ");
        for (int out = 0; out < tokens.length; out++) {
            List<String> left = new ArrayList<>(Arrays.asList(tokens));
            left.remove(out);
            String list = ahead + String.join(" ", left);
            error(list, 1, out < left.size() ? ahead.length() + String.join(" ", left.subList(0, out)).length() + (out == 0 ? 0 : 1)
                    : list.length());
        }
        return Check.taught(ahead + line + ";");
    }

    private static IntUnaryOperator of(java.util.function.IntBinaryOperator fact, int number) {
        return what -> fact.applyAsInt(number, what);
    }

    private static void beasts() {
        ChoirStalls x = told(BASE, "beast owl grim 9 fine 5");
        Check.rows("it", new int[] {9, 5, 0}, of(x::beast, 2));
        Check.same("beasts", x.count(2), 3);
        Check.rows("another", new int[] {0, 1, 0}, of(told("", "beast owl grim 0 fine 1")::beast, 0));
    }

    private static void carvers() {
        ChoirStalls x = told(BASE, "carver wat skill 8 pace 3 likes d");
        Check.rows("it", new int[] {8, 3, 1, -1, 0}, of(x::carver, 1));
        Check.same("carvers", x.count(3), 2);
        Check.rows("one that likes none", new int[] {3, 4, -1, -1, 0}, of(told("", "carver wat skill 3 pace 4")::carver, 0));
    }

    private static void stalls() {
        ChoirStalls x = told(BASE, "stall u oak 3");
        Check.rows("it", new int[] {3, -1, 0, 0, 0, 0, 0}, of(x::stall, 2));
        Check.same("stalls", x.count(4), 3);
    }

    private static void bishops() {
        ChoirStalls x = told(BASE + "carve b on s by c;", "bishop odo grim 9 from 30");
        Check.same("bishops", x.count(5), 1);
        Check.same("from 30", x.bishop() + x.until(0, 0), -1 + 9);
        x.pass(30);
        Check.same("on that day", x.bishop(), 0);
        // b, as grim as 4, of skill 5 on oak 6, which squeaks by then.
        Check.same("grim 9", x.stall(0, 6), x.stall(0, 2) - 10);
    }

    private static void carving() {
        ChoirStalls x = told(BASE, "carve d on t by c");
        Check.rows("it", new int[] {0, 1, 1, 0, 0, 1}, of(x::order, 0));
        ChoirStalls y = told(BASE, "carve b on t by c when day > 3");
        Check.rows("with a test", new int[] {0, 1, 0, 0, 0, 0}, of(y::order, 0));
        y.pass(4);
        Check.same("which holds", y.order(0, 5), 1);
    }

    private static void oiling() {
        ChoirStalls x = told(BASE, "oil t");
        Check.rows("it", new int[] {1, 1, -1, -1, 0, 1}, of(x::order, 0));
        ChoirStalls y = told(BASE, "oil s when day > 3");
        Check.rows("with a test", new int[] {1, 0, -1, -1, 0, 0}, of(y::order, 0));
        y.pass(4);
        Check.same("which holds", y.order(0, 5), 1);
    }

    /** Four singles, joined in each way: it holds, if in one of the parts between or all hold. */
    private static void tests() {
        for (int joins = 0; joins < 8; joins++) {
            for (int truth = 0; truth < 16; truth++) {
                StringBuilder test = new StringBuilder();
                boolean all = false;
                boolean part = true;
                for (int i = 0; i < 4; i++) {
                    boolean or = i > 0 && (joins >> (i - 1) & 1) == 1;
                    test.append(i == 0 ? "" : or ? " or " : " and ").append((truth >> i & 1) == 1 ? "1<2" : "2<1");
                    all |= or && part;
                    part = (or || part) && (truth >> i & 1) == 1;
                }
                holds(test.toString(), all || part);
            }
        }
    }

    /** Five values, joined in each way, from left to right: the products ahead of what is added. */
    private static void products() {
        int[] values = {37, 5, 3, 2, 4};
        for (int joins = 0; joins < 256; joins++) {
            StringBuilder sum = new StringBuilder("37");
            int all = 0;
            int product = values[0];
            for (int i = 1; i < 5; i++) {
                int join = joins >> 2 * (i - 1) & 3;
                sum.append("+-*/".charAt(join)).append(values[i]);
                all += join < 2 ? product : 0;
                product = join == 0 ? values[i] : join == 1 ? -values[i] : join == 2 ? product * values[i] : product / values[i];
            }
            int due = all + product;
            holds(sum + "=" + (due < 0 ? "-" : "") + Math.abs(due), true);
        }
    }

    private static void parentheses() {
        holds("(1+2)*3=9", true);
        holds("3*(1+2)=9", true);
        holds("20-(9-4)=15", true);
        holds("20/(9/4)=10", true);
        holds("(20-9)-4=7", true);
        holds("-(1+2)=-3", true);
        holds("(-1)+2=1", true);
        holds("((7))=(7)", true);
        holds("(damp)*(day+1)=3", true);
        holds("2*(3+4*(5-1))=38", true);
        holds("(1)<(2) and (2)<(3)", true);
        String oil = BASE + "oil s when ";
        error(oil + "()<1;", 1, oil.length() + 1);
        error(oil + "(1<2);", 1, oil.length() + 2);
        error(oil + "(1,2)<3;", 1, oil.length() + 2);
        error(oil + "(1<2;", 1, oil.length() + 2);
        error(oil + "1)<2;", 1, oil.length() + 1);
        error(oil + "(bears s b);", 1, oil.length() + 1);
        error(oil + "(1]<2;", 1, oil.length() + 2);
        error(oil + "[1<2);", 1, oil.length() + 4);
        error(oil + "[1+2]<3;", 1, oil.length() + 4);
    }

    private static void firstFault() {
        // Behind 20 orders: a keyword, a name and a number, each at fault, and how far behind its beginning.
        String[] lines = {"oil s;", "stall s oak 1;", "bishop z grim 10 from 0;"};
        int[] errors = {4, 2, 5};
        int[] places = {0, 6, 14};
        String ahead = BASE + "oil t;".repeat(20);
        int[][] orders = {{0, 1, 2}, {0, 2, 1}, {1, 0, 2}, {1, 2, 0}, {2, 0, 1}, {2, 1, 0}};
        for (int[] order : orders) {
            for (int count = 1; count <= 3; count++) {
                StringBuilder list = new StringBuilder(ahead);
                for (int i = 0; i < count; i++) {
                    list.append(lines[order[i]]);
                }
                error(list.toString(), errors[order[0]], ahead.length() + places[order[0]]);
            }
        }
        error(BASE + "carve s on b by t when rust c<1;", 3, BASE.length() + 6);
        error(BASE + "carve b on b by t when rust c<1;", 3, BASE.length() + 11);
        error(BASE + "carve b on s by t when rust c<1;", 3, BASE.length() + 16);
        error(BASE + "carve b on s by c when rust c<1;", 3, BASE.length() + 28);
        error("beast x grim 10 fine 0;", 5, 13);
        error("beast x grim 9 fine 0;", 5, 20);
        error("carver x skill 0 pace 5 likes x;", 5, 15);
        error("carver x skill 1 pace 5 likes x;", 5, 22);
        error("carver x skill 1 pace 4 likes x;", 3, 30);
    }

    private static void namesAtTheBeginning() {
        error(BASE + "beast b grim 1 fine 1;", 2, BASE.length() + 6);
        error(BASE + "carver c skill 1 pace 1;", 2, BASE.length() + 7);
        error(BASE + "stall t oak 1;", 2, BASE.length() + 6);
        error("bishop p grim 1 from 1;bishop q grim 1 from 1;bishop p grim 1 from 1;", 2, 53);
        // One name for one of each sort, and each of them named again elsewhere.
        fits("beast x grim 1 fine 1;carver x skill 1 pace 1 likes x;stall x oak 1;bishop x grim 1 from 0;carve x on x by x;carve x on x by x;"
                + "oil x;oil x when bears x x or squeaks x and quality x<worms x+rust x;");
        error("beast x grim 1 fine 1;carver x skill 1 pace 1 likes x;stall x oak 1;bishop x grim 1 from 0;stall x oak 1;", 2, 97);
    }

    private static void numbersWithoutARange() {
        for (String number : new String[] {"0", "10", "1000", "100000", "999999", "000000"}) {
            fits(BASE + "oil s when " + number + "<1;");
            fits(BASE + "oil s when min(1,-" + number + ")*2<day;");
        }
        error("stall u oak 10;", 5, 12);
        error("stall u oak 999999;", 5, 12);
        error("bishop p grim 1 from 1000;", 5, 21);
        fits("bishop p grim 1 from 000999;stall u oak 000009;");
    }

    private static void numbered() {
        ChoirStalls x = Check.taught("stall s oak 4;bishop p grim 1 from 5;beast b grim 4 fine 2;oil s;carver c skill 5 pace 2;bishop q grim 2 from 3;"
                + "carve b on s by c;stall t oak 8;beast a grim 7 fine 3;oil t;carver a skill 7 pace 3;carve a on t by a;stall a oak 2;"
                + "carve b on a by a;oil a;");
        Check.same("beast 0", x.beast(0, 0), 4);
        Check.same("beast 1", x.beast(1, 0), 7);
        Check.same("carver 0", x.carver(0, 0), 5);
        Check.same("carver 1", x.carver(1, 0), 7);
        Check.rows("stalls", new int[] {4, 8, 2}, i -> x.stall(i, 0));
        Check.rows("carve or oil", new int[] {1, 0, 1, 0, 0, 1}, i -> x.order(i, 0));
        Check.rows("their stalls", new int[] {0, 0, 1, 1, 2, 2}, i -> x.order(i, 1));
        Check.rows("their beasts", new int[] {-1, 0, -1, 1, 0, -1}, i -> x.order(i, 2));
        Check.rows("their carvers", new int[] {-1, 0, -1, 1, 1, -1}, i -> x.order(i, 3));
        x.pass(3);
        Check.same("the bishop of day 3", x.bishop(), 1);
        x.pass(2);
        Check.same("the bishop of day 5", x.bishop(), 0);
    }
}
