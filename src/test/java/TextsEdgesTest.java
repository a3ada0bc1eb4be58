/** Promises 7 to 9 at their edges: THE TAPE, TOKENS, the grammar, each FAULT, bounds, room for TEXTS. */
public final class TextsEdgesTest {
    private static final int BAD = PapersEarly.BAD, FULL = PapersEarly.FULL;
    private static final String REST = ";rings 0;tips 0;";
    private static final Due due = new Due("TextsEdgesTest");

    public static void main(String[] args) {
        p07firstAndLastByte();
        p07lastPlaceOfTheTape();
        p07tapeGrows();
        p08emptyAndLongest();
        p08tapeIsEmptyThen();
        p08bytesThatBeginNone();
        p08bytesInsideTokens();
        p08blanks();
        p08words();
        p08numbersOfFourDigits();
        p08faultsOfNumbersTooLong();
        p08firstFaultOfSeveral();
        p08endsTooEarly();
        p08everyThreeTokens();
        p08fiveAreOpen();
        p08openOnesEnd();
        p08boundsOfBy();
        p08boundsOfTips();
        p08ringsIsNotNothing();
        p08namesTell();
        p08lateTells();
        p08signsTell();
        p08deepestStack();
        p08sixTexts();
        p08fullAheadOfAll();
        p08textIsNotYetTheRule();
        p09firstAndLastText();
        p09isUsed();
        due.end();
    }

    private static int read(PapersEarly x, String text) {
        Streets.feed(x, text);
        return x.text();
    }

    private static void fault(String text, int place) {
        due.is("text() of " + shown(text), read(new PapersEarly(), text), -100 - place);
    }

    private static void stands(String text) {
        due.is("text() of " + shown(text), read(new PapersEarly(), text), 1);
    }

    private static String shown(String text) {
        StringBuilder all = new StringBuilder("\"");
        for (char c : text.toCharArray()) {
            all.append(c >= 32 && c < 127 ? String.valueOf(c) : "<" + (int) c + ">");
        }
        return all.append('"').toString();
    }

    private static void by(String e, int want) {
        due.is("by " + e, Streets.by(e), want);
    }

    // ---- 7: feed

    private static void p07firstAndLastByte() {
        PapersEarly x = new PapersEarly();
        due.is("feed(0)", x.feed(0), 1);
        due.is("feed(255)", x.feed(255), 2);
        due.is("feed(1)", x.feed(1), 3);
        due.is("feed(254)", x.feed(254), 4);
        for (int letter = 0; letter < 256; letter++) {
            due.answers(Streets::bare, 1, "feed", letter);
        }
    }

    private static void p07lastPlaceOfTheTape() {
        PapersEarly x = new PapersEarly();
        for (int i = 1; i <= 160; i++) {
            due.is("feed(32)", x.feed(32), i);
            due.is("count(2)", x.count(2), i);
        }
        due.is("160 bytes at most", x.feed(32), FULL);
        due.is("BAD ahead of FULL", x.feed(256), BAD);
        due.is("BAD ahead of FULL", x.feed(-1), BAD);
        due.is("count(2)", x.count(2), 160);
        x.text();
        due.is("there is room then", x.feed(32), 1);
    }

    private static void p07tapeGrows() {
        PapersEarly x = new PapersEarly();
        Streets.feed(x, "by 4");
        x.feed(256);
        x.house(0, 0, 0);
        Streets.feed(x, "2" + REST);
        due.is("a byte comes behind THE TAPE, whatever came between", x.text(), 1);
        x.force(1);
        due.is("by 42", x.told(0, 7), 42);
    }

    // ---- 8: text

    private static void p08emptyAndLongest() {
        fault("", 0);
        fault(" ", 1);
        fault("\n", 1);
        fault(" ".repeat(160), 160);
        stands("by 0;rings 0;tips 0;");
        String longest = "by 1" + "+1".repeat(70) + ";rings 0;tips 0;";
        due.is("the longest text has 160 bytes", longest.length(), 160);
        PapersEarly x = Streets.doors(1);
        due.is("text() of it", read(x, longest), 1);
        x.force(1);
        due.is("by 71", x.told(0, 7), 71);
        fault("by 1" + "+1".repeat(70) + ";rings 0;tips 0", 159);
        fault("by 1" + "+1".repeat(70) + ";rings 0;tips 0 ", 160);
        fault("by 1" + "+1".repeat(70) + ";rings 0;tips 0?", 159);
        String spread = "by 1" + " ".repeat(140) + ";rings 0;tips 0;";
        due.is("blanks up to 160 bytes", read(new PapersEarly(), spread), 1);
        fault("z".repeat(160), 0);
        fault("by " + "1".repeat(157), 3);
        fault("by " + "1 ".repeat(78) + "1", 5);
    }

    private static void p08tapeIsEmptyThen() {
        PapersEarly x = new PapersEarly();
        due.is("a text", read(x, "by 1" + REST), 1);
        due.is("THE TAPE is empty then", x.count(2), 0);
        due.is("a text of nothing", x.text(), -100);
        due.is("a FAULT", read(x, "by 1 2"), -105);
        due.is("THE TAPE is empty by a FAULT, too", x.count(2), 0);
        due.is("no TEXT came by it", x.count(1), 2);
        due.is("what comes then stands alone", read(x, "by 3" + REST), 2);
        due.is("a FAULT behind a FAULT", read(x, "?"), -100);
        due.is("numbers have no gap by a FAULT", read(x, "by 3" + REST), 3);
    }

    private static boolean isIn(int letter, String signs) {
        return signs.indexOf(letter) >= 0;
    }

    private static void p08bytesThatBeginNone() {
        for (int b = 0; b < 256; b++) {
            char c = (char) b;
            boolean letter = b >= 97 && b <= 122;
            boolean digit = b >= 48 && b <= 57;
            boolean blank = b == 32 || b == 10;
            fault(String.valueOf(c), blank ? 1 : 0);
            fault("by " + c, digit || blank || isIn(b, "(-") ? 4 : 3);
            fault("by 1 " + c, blank || isIn(b, ";+-*<=") ? 6 : 5);
            if (blank) {
                stands("by 1;rings 0;tips 0;" + c);
            } else {
                fault("by 1;rings 0;tips 0;" + c, 20);
            }
            fault("by 1" + c + ";rings 0", digit || blank ? 13 : isIn(b, "+-*<=") ? 5 : isIn(b, ";") ? 5 : 4);
            if (!letter) fault("by" + c, blank || digit || isIn(b, "(-") ? 3 : 2);
        }
    }

    private static void p08bytesInsideTokens() {
        for (int b = 0; b < 256; b++) {
            char c = (char) b;
            boolean letter = b >= 97 && b <= 122;
            boolean digit = b >= 48 && b <= 57;
            boolean joint = isIn(b, "+-*<=");
            // A WORD goes on by letters alone, a NUMBER by digits alone.
            fault("by" + c + "9", letter ? 0 : digit || b == 32 || b == 10 || b == '(' || b == '-' ? 4 : 2);
            fault("by late" + c, letter ? 3 : joint || b == 32 || b == 10 || b == ';' ? 8 : 7);
            fault("by 1234" + c, digit ? 3 : joint || b == 32 || b == 10 || b == ';' ? 8 : 7);
        }
    }

    private static void p08blanks() {
        stands("by1;rings0;tips2;");
        stands("by(1)or(2);rings-1;tips-2;");
        stands("by1or2and3;rings not(0);tips2;");
        stands(" \n by \n 1 \n ; \n rings \n 0 \n ; \n tips \n 0 \n ; \n ");
        stands("by 1 + \n- 2 * ( 3 )" + REST);
        for (int b : new int[] {0, 9, 11, 12, 13, 127, 160, 255}) {
            fault("by 1" + (char) b + REST, 4);
            fault((char) b + "by 1" + REST, 0);
            fault("by 1" + REST + (char) b, 4 + REST.length());
        }
        fault("b y 1", 0);
        fault("by pl ace", 3);
        fault("by 1 2", 5);
        fault("by\n1\n2", 5);
    }

    private static void p08words() {
        String[] names = {"place", "side", "sort", "late", "rain", "house"};
        for (String name : names) {
            stands("by " + name + REST);
            fault("by " + name + "s ;", 3);
            fault("by s" + name + " ;", 3);
            fault("by " + name.substring(1) + " ;", 3);
            fault("by q" + name.substring(1) + " ;", 3);
            fault("by " + name.substring(0, 2) + "q" + name.substring(3) + " ;", 3);
            fault("by " + name.substring(0, name.length() - 1) + "q ;", 3);
            fault("by " + name.substring(0, name.length() - 1) + " ;", 3);
            fault(name, 0);
            fault("by 1 " + name, 5);
            fault("by 1; " + name, 6);
            fault("by " + name + name, 3);
        }
        String[] keys = {"by", "rings", "tips", "or", "and"};
        for (String key : keys) {
            fault("by " + key + " 1", 3);
            fault("by (" + key + " 1", 4);
            fault("by 1 + " + key, 7);
        }
        String[] firsts = {"rings", "tips", "or", "and", "not", "bys", "b", "yb", "bby", "qy", "bq"};
        for (String first : firsts) {
            fault(first + " 1", 0);
        }
        fault("by notlate ;", 3);
        fault("by 1 orlate ;", 5);
        fault("by 1 andlate ;", 5);
        fault("by 1;ringslate;", 5);
        fault("by 1;ring 0;", 5);
        fault("by 1;qings 0;", 5);
        fault("by 1;rings 0;qips 0;", 13);
        fault("by qot 1;", 3);
        fault("by 1 qr 1;", 5);
        fault("by 1 qnd 1;", 5);
        fault("by 1;rings 0;tip 0;", 13);
        fault("by 1;tips 0;", 5);
        fault("by 1;by 1;", 5);
        fault("by 1;rings 0;rings 0;", 13);
        fault("by 1;rings 0;by 0;", 13);
        fault("rings 0;", 0);
        fault("By 1", 0);
        fault("BY 1", 0);
        fault("by LATE", 3);
    }

    private static void p08numbersOfFourDigits() {
        by("0", 0);
        by("7", 7);
        by("0000", 0);
        by("0007", 7);
        by("0999", 999);
        by("9999-9001", 998);
        by("1000-1", 999);
        by("9999*0+5", 5);
    }

    private static void p08faultsOfNumbersTooLong() {
        fault("by 10000 ;", 3);
        fault("by 00000 ;", 3);
        fault("by 99999;", 3);
        fault("by 12345", 3);
        fault("by 1 + 123456", 7);
        fault("by 1 12345", 5);
        fault("by 4294967297 ;", 3);
        fault("12345", 0);
        fault("by 1234 5678", 8);
        fault("by (12345)", 4);
        fault("by 1;rings 12345;", 11);
        fault("by 1;rings 0;tips 12345;", 18);
    }

    private static void p08firstFaultOfSeveral() {
        fault("by 1 2 # ;", 5);
        fault("by 1 2 foo ;", 5);
        fault("by 1 2 12345 ;", 5);
        fault("by # foo ;", 3);
        fault("by foo # ;", 3);
        fault("by 12345 # ;", 3);
        fault("by ) ((((((1", 3);
        fault("by ((((((1 2 #", 8);
        fault("by ((((( 1 2 (", 11);
        fault("# by 1 2", 0);
        fault("by 1;rings # ; tips #;", 11);
        fault("by 1 rings 0 #", 5);
    }

    private static void p08endsTooEarly() {
        String whole = "by ( 1 + - 2 ) < 3 and not late;rings 0 or 1 * 2;tips 9;";
        stands(whole);
        // Wherever a TOKEN ends, the text that ends there ends too early; blanks behind it count.
        int[] ends = {2, 4, 6, 8, 10, 12, 14, 16, 18, 22, 26, 31, 32, 37, 39, 42, 44, 46, 48, 49, 53, 55};
        for (int end : ends) {
            fault(whole.substring(0, end), end);
            fault(whole.substring(0, end) + " ", end + 1);
            fault(whole.substring(0, end) + "\n  \n", end + 4);
        }
        fault(whole + ";", whole.length());
        fault(whole + " by", whole.length() + 1);
        fault(whole + whole, whole.length());
    }

    /** All rows of three TOKENS behind by, held against the model's reading. */
    private static void p08everyThreeTokens() {
        String[] tokens = {
            "(", ")", ";", "+", "-", "*", "<", "=", "by", "rings", "tips", "or", "and", "not", "late", "7",
            "12345", "zz", "#"};
        int unlike = 0;
        for (String a : tokens) {
            for (String b : tokens) {
                for (String c : tokens) {
                    String text = "by " + a + " " + b + " " + c + " ;rings 0;tips 0;";
                    Model model = new Model();
                    for (char letter : text.toCharArray()) {
                        model.feed(letter);
                    }
                    int want = model.text();
                    int got = read(new PapersEarly(), text);
                    if (got != want && unlike++ < 5) {
                        due.is("text() of " + text, got, want);
                    }
                }
            }
        }
        due.is("texts of three tokens that are read otherwise", unlike, 0);
    }

    private static void p08fiveAreOpen() {
        String[] openers = {"(", "not ", "-"};
        for (String opener : openers) {
            String close = opener.equals("(") ? ")" : "";
            for (int many = 1; many <= 5; many++) {
                stands("by " + opener.repeat(many) + "1" + close.repeat(many) + REST);
            }
            for (int many = 6; many <= 8; many++) {
                fault("by " + opener.repeat(many) + "1" + close.repeat(many) + REST, 3 + 5 * opener.length());
            }
            fault("by " + opener.repeat(6), 3 + 5 * opener.length());
            fault("by 1;rings " + opener.repeat(6) + "1", 11 + 5 * opener.length());
            fault("by 1;rings 0;tips " + opener.repeat(6) + "1", 18 + 5 * opener.length());
        }
        // While five of these, of any kinds, are open, none of the three may come.
        String[] fives = {"(((((", "-----", "(-(-(", "not(-(-", "not not not not not ", "not not(((", "(not(not(", "((((-"};
        for (String five : fives) {
            String close = ")".repeat((int) five.chars().filter(c -> c == '(').count());
            stands("by " + five + "1" + close + REST);
            fault("by " + five + "(1)" + close + REST, 3 + five.length());
            fault("by " + five + "-1" + close + REST, 3 + five.length());
            fault("by " + five + "not 1" + close + REST, 3 + five.length());
        }
    }

    private static void p08openOnesEnd() {
        String five = "(((((1)))))";
        String[] ahead = {
            "(1)+", "-1+", "-(1)*", "- - - - -1-", "(1)and ", "not 1 and ", "not not 1 or ", "(not 1)and ", "(-1)<", "1--1*",
            "((((1))))*", "not 1 and -1+", "not(1)or(2)and "};
        for (String a : ahead) {
            stands("by " + a + five + REST);
            stands("by " + five + "+" + five + REST);
        }
        // A not is open till its NOT ends: behind <, + and * it still is; behind and it is not.
        String[] open = {"not 1<", "not 1+", "not 1*", "not 1=", "not -1+", "-", "(1+", "(1 and ", "(not 1 and "};
        for (String o : open) {
            fault("by " + o + five + REST, 3 + o.length() + 4);
            stands("by " + o + "((((1))))" + (o.startsWith("(") ? ")" : "") + REST);
        }
        // Each part of a TEXT begins with none open.
        stands("by " + five + ";rings " + five + ";tips " + five + ";");
        stands("by not not not not not 1;rings not not not not not 1;tips -----1;");
        fault("by -----1+------1;", 15);
        stands("by -----1+-----1*-----1" + REST);
    }

    private static void p08boundsOfBy() {
        by("-1", 0);
        by("0", 0);
        by("1", 1);
        by("998", 998);
        by("999", 999);
        by("1000", 999);
        by("9999", 999);
        by("-9999", 0);
        by("9999*9999", 999);
    }

    private static int tips(int kind, String e) {
        PapersEarly x = new PapersEarly();
        x.house(kind, 90, 0);
        Streets.rule(x, "by 999;rings 0;tips " + e + ";");
        return x.at(0, 2);
    }

    private static void p08boundsOfTips() {
        due.is("tips -1", tips(0, "-1"), 0);
        due.is("tips 0", tips(0, "0"), 0);
        due.is("tips 1", tips(0, "1"), 1);
        due.is("tips 98", tips(0, "98"), 98);
        due.is("tips 99", tips(0, "99"), 99);
        due.is("tips 100", tips(0, "100"), 99);
        due.is("tips 9999 * 9999", tips(0, "9999*9999"), 99);
        // The bound is of base: what a DOOR's KIND makes of it comes behind.
        due.is("STEPS, tips 100", tips(3, "100"), 108);
        due.is("STEPS, tips -1", tips(3, "-1"), 9);
        due.is("STEPS, tips -9999", tips(3, "-9999"), 9);
        due.is("BELL, tips 100", tips(4, "100"), 51);
        due.is("DOG, tips 100", tips(2, "100"), 49);
        due.is("DOG, tips 1", tips(2, "1"), 0);
    }

    private static int rings(String e) {
        PapersEarly x = new PapersEarly();
        x.house(0, 2, 71);
        x.bag(5, 3);
        Streets.rule(x, "by 0;rings " + e + ";tips 0;");
        return x.round(3);
    }

    private static void p08ringsIsNotNothing() {
        due.is("rings 0", rings("0"), 0);
        due.is("rings 1", rings("1"), 1);
        due.is("rings 2", rings("2"), 1);
        due.is("rings -1", rings("-1"), 1);
        due.is("rings 9999", rings("9999"), 1);
        due.is("rings 1-1", rings("1-1"), 0);
        due.is("rings not 0", rings("not 0"), 1);
        due.is("rings rain=3", rings("rain=3"), 1);
        due.is("rings rain=2", rings("rain=2"), 0);
        due.is("rings place=7", rings("place=7"), 1);
        due.is("rings sort-2", rings("sort-2"), 0);
        // AT 3, by 0.
        due.is("rings late=3", rings("late=3"), 1);
        due.is("rings late=4", rings("late=4"), 0);
    }

    private static void p08namesTell() {
        by("place", 7);
        by("side", 1);
        by("sort", 2);
        by("late", 0);
        by("late+5", 5);
        by("5-late", 5);
        by("rain", 3);
        by("house", 1);
        PapersEarly x = new PapersEarly();
        x.house(0, 3, 991);
        x.bag(5, 9);
        Streets.rule(x, "by 999;rings 0;tips place+side*0;");
        due.is("tips tell of place 99", x.at(0, 2), 99);
        Streets.rule(x, "by 999;rings 0;tips sort*10+side*5+rain+house;");
        due.is("tips tell of sort, side, rain, house", x.at(0, 2), 44);
        Streets.rule(x, "by 999;rings 0;tips late+rain;");
        due.is("late is 0 if it isn't", x.at(0, 2), 9);
    }

    private static void p08lateTells() {
        PapersEarly x = Streets.doors(1);
        x.bag(5, 7);
        Streets.rule(x, "by 40;rings late=0;tips 2*late+30;");
        int[][] beginLateTips = {{0, 0, 30}, {39, 0, 30}, {40, 0, 30}, {41, 1, 31}, {42, 2, 32}, {70, 30, 60}, {80, 40, 59}};
        for (int[] w : beginLateTips) {
            x.bag(2, w[0]);
            due.is("LATE, AT being " + w[0], x.at(0, 1), w[1]);
            due.is("TIPS, AT being " + w[0], x.at(0, 2), w[2]);
            due.is("rings late=0, AT being " + w[0], x.round(3), w[1] == 0 ? 1 : 0);
        }
    }

    private static void p08signsTell() {
        by("2 < 2", 0);
        by("1 < 2", 1);
        by("2 < 1", 0);
        by("0-1 < 0", 1);
        by("2 = 2", 1);
        by("2 = 1", 0);
        by("0 = -0", 1);
        by("(3 or 0)*100", 100);
        by("(0 or 3)*100", 100);
        by("(0 or 0)*100", 0);
        by("(3 and 2)*100", 100);
        by("(3 and 0)*100", 0);
        by("(0 and 3)*100", 0);
        by("(not 3)*100", 0);
        by("(not 0)*100", 100);
        by("(not -1)*100", 0);
        by("(-1 and -1)*100", 100);
        by("1 or 0 and 0", 1);
        by("not 0 or 1", 1);
        by("not 1 and 0", 0);
        by("(not 0 and 0)+5", 5);
        by("not 1 = 2", 1);
        by("not 2 < 1", 1);
        by("2 + 3 = 5", 1);
        by("1 - 2 + 10", 9);
        by("100 - 10 - 5", 85);
        by("100 - (10 - 5)", 95);
        by("2 + 3 * 4 - 5", 9);
        by("- 2 * 3 + 10", 4);
        by("-2 + 10", 8);
        by("3 * -2 + 10", 4);
        by("3 - -2", 5);
        by("-(1 - 9)", 8);
        by("- - 3", 3);
    }

    /** At each of six depths five signs wait for what stands behind them. */
    private static void p08deepestStack() {
        String waits = "0or 1and 0<0+1*";
        by((waits + "(").repeat(5) + waits + "7" + ")".repeat(5), 1);
        by((waits + "(").repeat(5) + waits + "0" + ")".repeat(5), 0);
        by("1+(2+(3+(4+(5+(6+7*8)))))", 77);
    }

    private static void p08sixTexts() {
        PapersEarly x = Streets.doors(1);
        for (int i = 1; i <= 5; i++) {
            due.is("text() " + i, read(x, "by " + i + REST), i);
            due.is("count(1)", x.count(1), i + 1);
        }
        due.is("6 at most, TEXT 0 with them", read(x, "by 6" + REST), FULL);
        due.is("count(1)", x.count(1), 6);
        for (int i = 5; i >= 1; i--) {
            x.force(i);
            due.is("TEXT " + i, x.told(0, 7), i);
        }
        x.force(0);
        due.is("TEXT 0", x.told(0, 7), 30);
    }

    private static void p08fullAheadOfAll() {
        PapersEarly x = Streets.readFull();
        due.is("FULL ahead of a FAULT", x.text(), FULL);
        due.is("THE TAPE stays", x.count(2), 1);
        due.is("THE TAPE grows on", x.feed(32), 2);
        due.is("FULL once more", x.text(), FULL);
        x.image();
        x.back();
        due.is("TEXTS stay by back()", x.text(), FULL);
    }

    private static void p08textIsNotYetTheRule() {
        PapersEarly x = Streets.doors(1);
        read(x, "by 77;rings 1;tips 0;");
        due.is("THE RULE stays", x.count(3), 0);
        due.is("told(0, 7)", x.told(0, 7), 30);
        due.is("rings", x.round(3), 0);
        x.force(1);
        due.is("told(0, 7)", x.told(0, 7), 77);
        due.is("rings", x.round(3), 1);
        read(x, "by 1;rings 0;tips 0");
        due.is("a FAULT leaves THE RULE", x.told(0, 7), 77);
    }

    // ---- 9: force

    private static void p09firstAndLastText() {
        PapersEarly x = Streets.readFull();
        due.is("force(5): which was", x.force(5), 3);
        due.is("count(3)", x.count(3), 5);
        due.is("force(6)", x.force(6), BAD);
        due.is("force(-1)", x.force(-1), BAD);
        due.is("force(0): which was", x.force(0), 5);
        due.is("force(0) once more", x.force(0), 0);
        due.is("count(3)", x.count(3), 0);
        PapersEarly one = new PapersEarly();
        due.is("force(0) of one", one.force(0), 0);
        due.is("force(1) of one", one.force(1), BAD);
    }

    private static void p09isUsed() {
        PapersEarly x = Streets.doors(2);
        x.bag(2, 50);
        due.is("PURSE of TEXT 0: both ring up", x.round(4), 0);
        due.is("best of TEXT 0", x.best(1, -1), 0);
        Streets.rule(x, "by 999;rings house;tips 9;");
        due.is("RING UP of TEXT 1", x.round(3), 2);
        due.is("PURSE of TEXT 1", x.round(4), 9);
        due.is("best of TEXT 1", x.best(1, -1), 9);
        due.is("begin of TEXT 1", x.begin(), 998);
        x.force(0);
        due.is("best of TEXT 0 again", x.best(1, -1), 0);
        due.is("begin of TEXT 0 again", x.begin(), 30);
    }
}
