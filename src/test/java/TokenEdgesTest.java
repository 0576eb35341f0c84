/** Edges of '1. The language', the tokens: where each begins and ends, and what is none. */
public final class TokenEdgesTest {
    private static final String KEYWORDS = "beast grim fine carver skill pace likes stall oak bishop from carve on by oil when"
            + " day damp quality worms rust coins bears squeaks not and or min max";

    public static void main(String[] args) {
        Check.sentence("Language", "Blanks (32) and line ends (10) can stand between tokens", TokenEdgesTest::blanks);
        Check.sentence("Language", "at the beginning and at the end", TokenEdgesTest::blanksAtTheEnds);
        Check.sentence("Language", "have to stand between two tokens that would otherwise be read as one",
                TokenEdgesTest::neededBlanks);
        Check.sentence("Language", "The longest possible token is always read.", TokenEdgesTest::longest);
        Check.sentence("Language", "A word: a letter a to z, followed by letters a to z and digits", TokenEdgesTest::lettersOfWords);
        Check.sentence("Language", "at most 10 bytes", TokenEdgesTest::longWords);
        Check.sentence("Language", "All other words are names.", TokenEdgesTest::namesApart);
        Check.sentence("Language", "All other words are names.", TokenEdgesTest::eachNameOfItsOwn);
        Check.sentence("Language", "A number: 1 to 6 digits.", TokenEdgesTest::digits);
        Check.sentence("Language", "Symbols: ( ) [ ] ; , + - * / < > = <= >=", TokenEdgesTest::symbols);
        Check.sentence("Language", "a byte with which no token begins", TokenEdgesTest::eachByteBehindAName);
        Check.sentence("Language", "a byte with which no token begins", TokenEdgesTest::eachByteAsAName);
        Check.sentence("Language", "a byte with which no token begins", TokenEdgesTest::eachByteBehindANumber);
        Check.sentence("Language", "a byte with which no token begins", TokenEdgesTest::eachByteAtTheEnd);
        Check.sentence("Language", "The keywords are: " + KEYWORDS + ".", TokenEdgesTest::keywordsAreNoNames);
        Check.sentence("Language", "All other words are names.", TokenEdgesTest::wordsBesideKeywords);
        Check.finish("TokenEdgesTest");
    }

    /** The error of the list alone, and where. */
    static void error(String list, int error, int at) {
        ChoirStalls x = new ChoirStalls();
        Check.same("teach of " + list, Check.teach(x, list), error);
        Check.same("errorAt of " + list, x.errorAt(), at);
    }

    static void fits(String list) {
        error(list, 0, -1);
    }

    private static boolean isBlank(int b) {
        return b == 32 || b == 10;
    }

    private static boolean isLetter(int b) {
        return b >= 97 && b <= 122;
    }

    private static boolean isDigit(int b) {
        return b >= 48 && b <= 57;
    }

    private static void blanks() {
        fits("stall\na\noak\n1\n;\noil\na\n;");
        fits("stall   a \n \n oak  \n\n1   ;oil     a;");
        error("stall\ta oak 1;", 1, 5);
        error("stall\u000ba oak 1;", 1, 5);
        error("stall\ra oak 1;", 1, 5);
        error("stall a oak 1\r\n;", 1, 13);
        error("stall\u001fa oak 1;", 1, 5);
        error("stall!a oak 1;", 1, 5);
        error("stall\0a oak 1;", 1, 5);
        error("stall\u00a0a oak 1;", 1, 5);
    }

    private static void blanksAtTheEnds() {
        fits(" stall a oak 1;");
        fits("\nstall a oak 1;");
        fits("stall a oak 1; ");
        fits("stall a oak 1;\n");
        fits(" \n \nstall a oak 1; \n \n");
        fits("");
        fits(" ");
        fits("\n");
        error(" ;", 1, 1);
        error("stall a oak 1 ", 1, 14);
    }

    private static void neededBlanks() {
        error("stalla oak 1;", 1, 0);
        error("stall aoak 1;", 1, 11);
        error("stall a oak1;", 1, 8);
        error("stall a oak 1 2;", 1, 14);
        error("stall a oak 12;", 5, 12);
        fits("stall a oak 1;oil a;");
        fits("beast b grim 1fine 2;stall a oak 1;oil a when 1<2and[3>2or-1<1]and not[bears a b]and(1)<2and min(1,2)=1;");
        fits("stall a oak 1;oil a when not not 1<2or 1<2;");
        error("stall a oak 1;oil a when notnot 1<2;", 1, 25);
    }

    private static void longest() {
        fits("stall a oak 1;oil a when 1<=2;");
        fits("stall a oak 1;oil a when 2>=1;");
        error("stall a oak 1;oil a when 1< =2;", 1, 28);
        error("stall a oak 1;oil a when 1> =2;", 1, 28);
        error("stall a oak 1;oil a when 1=<2;", 1, 27);
        error("stall a oak 1;oil a when 1=>2;", 1, 27);
        error("stall a oak 1;oil a when 1<<2;", 1, 27);
        error("stall a oak 1;oil a when 1<>2;", 1, 27);
        error("stall a oak 1;oil a when 1==2;", 1, 27);
        error("stall a oak 1;oil a when 1<==2;", 1, 28);
        error("stall a oak 1;oil a when 1<", 1, 27);
        error("stall a oak 1;oil a when 1>", 1, 27);
        error("stall a oak 1;oil a when 1<=", 1, 28);
        error("oila;", 1, 0);
        error("stall a oak 1;oil a when min1<2;", 1, 25);
        error("stall a oak 1;oil a when day1<2;", 1, 25);
        fits("stall a oak 1;oil a when 1<-2;");
        fits("stall a oak 1;oil a when 1--2=3;");
    }

    private static void lettersOfWords() {
        fits("stall a oak 1;");
        fits("stall z oak 1;");
        fits("stall a0 oak 1;");
        fits("stall z9 oak 1;");
        fits("stall az09za oak 1;");
        error("stall `a oak 1;", 1, 6);
        error("stall {a oak 1;", 1, 6);
        error("stall A oak 1;", 1, 6);
        error("stall Z oak 1;", 1, 6);
        error("stall _a oak 1;", 1, 6);
        error("stall 1a oak 1;", 1, 6);
        error("stall a` oak 1;", 1, 7);
        error("stall a{ oak 1;", 1, 7);
        error("stall a/ oak 1;", 1, 7);
        error("stall a: oak 1;", 1, 7);
        error("stall a_ oak 1;", 1, 7);
        error("stall aA oak 1;", 1, 7);
        error("stall \u00e1 oak 1;", 1, 6);
        error("stall a\u00fa oak 1;", 1, 7);
    }

    private static void longWords() {
        fits("stall abcdefghi oak 1;");
        fits("stall abcdefghij oak 1;");
        fits("stall z123456789 oak 1;");
        error("stall abcdefghijk oak 1;", 1, 6);
        error("stall z1234567890 oak 1;", 1, 6);
        error("stall abcdefghij oak 1;oil abcdefghijj;", 1, 27);
        error("stall " + "a".repeat(1994), 1, 6);
        error("z".repeat(2000), 1, 0);
        error("stall abcdefghij", 1, 16);
        error("stall abcdefghijk", 1, 6);
        error("stallsssss;", 1, 0);
        error("stall oak abcdefghijk", 1, 6);
        error("stall squeakssss2 oak 1;", 1, 6);
    }

    /** Names that differ by as little as they can are those of different stalls. */
    private static void namesApart() {
        String[] names = {"a", "a0", "a00", "aa", "b", "abcdefghij", "abcdefghik", "abcdefghi", "z999999999", "z999999998"};
        StringBuilder list = new StringBuilder();
        for (String name : names) {
            list.append("stall ").append(name).append(" oak 1;");
        }
        for (String name : names) {
            list.append("oil ").append(name).append(";");
        }
        ChoirStalls x = Check.taught(list.toString());
        Check.rows("stall of order", new int[] {0, 1, 2, 3, 4, 5, 6, 7, 8, 9}, i -> x.order(i, 1));
        error("stall a oak 1;oil a1;", 3, 18);
        error("stall a1 oak 1;oil a;", 3, 19);
        error("stall abcdefghij oak 1;oil abcdefghii;", 3, 27);
    }

    /** Each two of many words of two bytes are different names: they stand together in one list or more. */
    private static void eachNameOfItsOwn() {
        String all = "0123456789abcdefghijklmnopqrstuvwxyz";
        StringBuilder names = new StringBuilder();
        for (char first : "abcgz".toCharArray()) {
            for (char second : all.toCharArray()) {
                String name = "" + first + second;
                names.append((" " + KEYWORDS + " ").contains(" " + name + " ") ? "" : "stall " + name + " oak 1;");
            }
        }
        int five = 5 * "stall aa oak 1;".length();
        for (int i = 0; i + five <= names.length(); i += five) {
            for (int j = i + five; j + five <= names.length(); j += five) {
                fits(names.substring(i, i + five) + names.substring(j, j + five));
            }
        }
    }

    private static void digits() {
        String list = "bishop p grim 1 from ";
        fits(list + "0;");
        fits(list + "9;");
        fits(list + "000000;");
        fits(list + "000999;");
        error(list + "001000;", 5, 21);
        error(list + "999999;", 5, 21);
        error(list + "0000009;", 1, 21);
        error(list + "1000000;", 1, 21);
        error(list + "7".repeat(1979), 1, 21);
        error(list + "12345", 1, 26);
        error(list + "123456", 1, 27);
        error(list + "1234567", 1, 21);
        error(list + ";", 1, 21);
        error(list + "1.5;", 1, 22);
        error(list + "-1;", 1, 21);
        error(list + "+1;", 1, 21);
        fits("stall a oak 1;oil a when 999999>0;");
        error("stall a oak 1;oil a when 1234567>0;", 1, 25);
        ChoirStalls x = Check.taught("stall a oak 000007;oil a when 000010=10 and 999999-999998=1 and 0123=123;");
        Check.same("zeros ahead", x.stall(0, 0), 7);
        Check.same("numbers of ten", x.order(0, 5), 1);
    }

    private static void symbols() {
        String list = "beast b grim 1 fine 1;stall a oak 1;oil a when ";
        String test = "[(1+2*3-4/2)<6]and 6>5and 5=5and 4<=5and 5>=4and min(1,2)=1;";
        fits(list + test);
        for (int i = 0; i < test.length(); i++) {
            // Without one of them: what is left fits no more, or is read otherwise.
            if (";,".indexOf(test.charAt(i)) >= 0) {
                ChoirStalls x = new ChoirStalls();
                Check.same("without sign " + i, Check.teach(x, list + test.substring(0, i) + " " + test.substring(i + 1)), 1);
            }
        }
        for (String other : new String[] {"!", "\"", "#", "$", "%", "&", "'", ".", ":", "?", "@", "\\", "^", "_", "`", "{", "|",
            "}", "~", "\u007f"}) {
            error(list + "1 " + other + " 2;", 1, list.length() + 2);
            error(list + "1" + other + "<2;", 1, list.length() + 1);
        }
    }

    private static void eachByteBehindAName() {
        for (int b = 0; b < 256; b++) {
            String list = "stall a" + (char) b + " oak 1;";
            if (isBlank(b) || isLetter(b) || isDigit(b)) {
                fits(list);
            } else {
                error(list, 1, 7);
            }
        }
    }

    private static void eachByteAsAName() {
        for (int b = 0; b < 256; b++) {
            String list = "stall " + (char) b + " oak 1;";
            if (isLetter(b)) {
                fits(list);
            } else {
                error(list, 1, isBlank(b) ? 8 : 6);
            }
        }
    }

    private static void eachByteBehindANumber() {
        for (int b = 0; b < 256; b++) {
            String list = "bishop p grim 1 from 1" + (char) b + ";";
            if (isBlank(b)) {
                fits(list);
            } else if (isDigit(b)) {
                ChoirStalls x = Check.taught(list);
                Check.same("days ahead of it", dayOfBishop(x), 10 + b - 48);
            } else {
                error(list, 1, b == ';' ? 23 : 22);
            }
        }
    }

    private static int dayOfBishop(ChoirStalls x) {
        for (int day = 0; day < 40; day++) {
            if (x.bishop() == 0) {
                return day;
            }
            x.pass(1);
        }
        return -1;
    }

    private static void eachByteAtTheEnd() {
        for (int b = 0; b < 256; b++) {
            String list = "stall a oak 1;" + (char) b;
            if (isBlank(b)) {
                fits(list);
            } else {
                error(list, 1, 14);
            }
            error("stall" + (char) b, 1, isBlank(b) ? 6 : isLetter(b) || isDigit(b) ? 0 : 5);
        }
    }

    private static void keywordsAreNoNames() {
        String[] keywords = KEYWORDS.split(" ");
        Check.same("keywords", keywords.length, 29);
        for (String keyword : keywords) {
            error("beast " + keyword + " grim 1 fine 1;", 1, 6);
            error("stall " + keyword + " oak 1;", 1, 6);
            error("stall a oak 1;oil " + keyword + ";", 1, 18);
        }
    }

    private static void wordsBesideKeywords() {
        for (String keyword : KEYWORDS.split(" ")) {
            String shorter = keyword.substring(0, keyword.length() - 1);
            String[] others = {keyword + "0", keyword + "x", "x" + keyword, shorter + "q", shorter};
            for (String name : others) {
                if (!(" " + KEYWORDS + " ").contains(" " + name + " ")) {
                    fits("beast " + name + " grim 1 fine 1;");
                }
            }
        }
        fits("stall name oak 1;stall number oak 1;stall list oak 1;stall line oak 1;stall test oak 1;stall sum oak 1;");
        fits("stall grims oak 1;stall coin oak 1;stall worm oak 1;stall tape oak 1;stall value oak 1;");
    }
}
