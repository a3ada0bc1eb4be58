/** Promises 7 to 9: feed, text, force. */
public final class TextsTest {
    private static final int BAD = PapersEarly.BAD, FULL = PapersEarly.FULL;
    private static final String REST = "; rings 0 ; tips 0 ;";
    private static final Due due = new Due("TextsTest");

    public static void main(String[] args) {
        feedCounts();
        textsStand();
        expressionsAnswer();
        boundsHold();
        lateIsTold();
        faults();
        nothingIsLeftOnTheTape();
        depths();
        roomForTexts();
        forceChanges();
        due.end();
    }

    private static void feedCounts() {
        PapersEarly x = new PapersEarly();
        due.is("feed(-1)", x.feed(-1), BAD);
        due.is("feed(256)", x.feed(256), BAD);
        due.is("feed(0)", x.feed(0), 1);
        due.is("feed(255)", x.feed(255), 2);
        for (int i = 3; i <= 160; i++) {
            due.is("feed(32)", x.feed(32), i);
        }
        due.is("a byte more than 160", x.feed(32), FULL);
        due.is("BAD is ahead of FULL", x.feed(256), BAD);
        due.is("text(): byte 0 begins nothing", x.text(), -100);
        due.is("count(2)", x.count(2), 0);
        due.is("feed(98)", x.feed(98), 1);
    }

    private static void textsStand() {
        String[] texts = {
            "by 30 + house * 5 ; rings 5 < late ; tips 20 - late ;",
            "by1;rings0;tips2;",
            "\n by\n1 ;rings late;tips-9 ; \n",
            "by 0007 ; rings not not late ; tips (((((1))))) ;",
            "by place + side - sort * late ; rings rain = house or 1 and 2 ; tips 9999 ;"};
        PapersEarly x = new PapersEarly();
        for (int i = 0; i < texts.length; i++) {
            Streets.feed(x, texts[i]);
            due.is("text() of " + texts[i], x.text(), i + 1);
            due.is("count(1)", x.count(1), i + 2);
            due.is("count(2)", x.count(2), 0);
            due.is("count(3): a text that is read is not yet the rule", x.count(3), 0);
        }
        PapersEarly whole = new PapersEarly();
        Streets.feed(whole, "by 1" + "+1".repeat(68) + REST);
        due.is("bytes of a whole tape", whole.count(2), 160);
        due.is("text() of a whole tape", whole.text(), 1);
    }

    /** What an expression is, told by when house 1 (place 7, side 1, sort 2) wants it, at rain 3. */
    private static void expression(String e, int want) {
        PapersEarly x = new PapersEarly();
        x.house(0, 2, 990);
        x.house(0, 2, 71);
        x.bag(5, 3);
        Streets.feed(x, "by " + e + REST);
        due.is("text() of " + e, x.text(), 1);
        x.force(1);
        due.is(e, x.told(1, 7), want);
    }

    private static void expressionsAnswer() {
        expression("1 + 2 * 3", 7);
        expression("(1 + 2) * 3", 9);
        expression("10 - 3 - 2", 5);
        expression("10 - (3 - 2)", 9);
        expression("2 * 3 * 4", 24);
        expression("2*-3+10", 4);
        expression("- 5 + 8", 3);
        expression("- - 5", 5);
        expression("- (2 - 9)", 7);
        expression("2 < 3", 1);
        expression("3 < 3", 0);
        expression("3 < 2", 0);
        expression("- 1 < 0", 1);
        expression("2 = 2", 1);
        expression("2 = 3", 0);
        expression("1 + 1 = 2 * 1", 1);
        expression("(1 < 2) < 3", 1);
        expression("not 0", 1);
        expression("not 5", 0);
        expression("not not 5", 1);
        expression("not 1 < 0", 1);
        expression("not 0 and 0", 0);
        expression("not 0 or 1", 1);
        expression("not (0 or 1)", 0);
        expression("(not 0) + 4", 5);
        expression("5 or 0", 1);
        expression("0 or 7", 1);
        expression("0 or 0", 0);
        expression("5 and 7", 1);
        expression("2 and 1", 1);
        expression("5 and 0", 0);
        expression("0 and 5", 0);
        expression("1 or 1 and 0", 1);
        expression("(1 or 1) and 0", 0);
        expression("0 and 0 or 1", 1);
        expression("1 and 1 and 1 and 0", 0);
        expression("0 or 0 or 0 or 4", 1);
        expression("(5 or 0) + (0 - 0)", 1);
        expression("7", 7);
        expression("(7)", 7);
        expression("place", 7);
        expression("side", 1);
        expression("sort", 2);
        expression("rain", 3);
        expression("house", 1);
        expression("late", 0);
        expression("place*100+side*50+sort*10+rain", 773);
        // 99980001 times 21 is the last below 2^31, times 43 the first above 2^32 again.
        expression("9999 * 9999 * 21 < 0", 0);
        expression("9999 * 9999 * 22 < 0", 1);
        expression("9999 * 9999 * 43 < 0", 0);
        expression("9999 * 9999 * 43 - 4172 * 1000", 747);
        expression("1+(1+(1+(1+(1+(1)))))", 6);
        // At each of six depths five signs wait for what stands behind them.
        String waits = "0or 1and 0<0+1*";
        expression((waits + "(").repeat(5) + waits + "7" + ")".repeat(5), 1);
        expression((waits + "(").repeat(5) + waits + "0" + ")".repeat(5), 0);
    }

    private static void boundsHold() {
        expression("0 - 1", 0);
        expression("- 9999", 0);
        expression("999", 999);
        expression("1000", 999);
        expression("9999", 999);
        expression("9999 * 9999", 999);
        expression("9999 * 9999 * 30", 0);
        PapersEarly x = new PapersEarly();
        x.house(0, 0, 0);
        Streets.rule(x, "by 999 ; rings 0 ; tips 100 ;");
        due.is("tips above the bound", x.at(0, 2), 99);
        Streets.rule(x, "by 999 ; rings 0 ; tips 0 - 1 ;");
        due.is("tips below the bound", x.at(0, 2), 0);
        Streets.rule(x, "by 999 ; rings 0 - 1 ; tips 9 ;");
        due.is("rings is anything but 0", x.round(3), 1);
    }

    private static void lateIsTold() {
        PapersEarly x = new PapersEarly();
        x.house(0, 0, 0);
        x.bag(2, 50);
        Streets.rule(x, "by 40 + late * 100 ; rings late = 10 ; tips 3 * late ;");
        due.is("of by late is 0", x.told(0, 7), 40);
        due.is("late", x.at(0, 1), 10);
        due.is("of rings it is told", x.round(3), 1);
        due.is("of tips too: 30 less 10", x.at(0, 2), 20);
    }

    private static void fault(String text, int place) {
        PapersEarly x = new PapersEarly();
        x.house(0, 0, 0);
        Streets.feed(x, text);
        due.is("text() of " + text, x.text(), -100 - place);
        due.is("the tape is empty after " + text, x.count(2), 0);
        due.is("no text came by " + text, x.count(1), 1);
        due.is("the rule stays after " + text, x.count(3), 0);
    }

    private static void faults() {
        fault("", 0);
        fault("  \n", 3);
        fault("by", 2);
        fault("by ", 3);
        fault("by 1", 4);
        fault("by 1 ;", 6);
        fault("by 1 ; rings 0 ; tips 1", 23);
        fault("by 1 ; rings 0 ; tips 1 ; ;", 26);
        fault("by 1 ; rings 0 ; tips 1 ; by", 26);
        fault("by 1 ; rings 0 ; tips 1 ;  \n!", 28);
        fault("bye 1 ;", 0);
        fault("  rings 1 ;", 2);
        fault("by 1 ; tips 0 ;", 7);
        fault("by 1 ; rings 0 ; by", 17);
        fault("by ; rings", 3);
        fault("by 1 2 ;", 5);
        fault("by 1place ;", 4);
        fault("by 12345 ;", 3);
        fault("by 00001 ;", 3);
        fault("by 1 + 123456789012 ;", 7);
        fault("by x ;", 3);
        fault("by placeside ;", 3);
        fault("by placez ;", 3);
        fault("by blace ;", 3);
        fault("by souse ;", 3);
        fault("my 1 ;", 0);
        fault("by plac ;", 3);
        fault("by Place ;", 3);
        fault("by by ;", 3);
        fault("by or ;", 3);
        fault("by 1 # ;", 5);
        fault("by 1\t;", 4);
        fault("by 1\r;", 4);
        fault("by 1 > 2 ;", 5);
        fault("by 1 / 2 ;", 5);
        fault("by 1 " + (char) 255 + ";", 5);
        fault("by " + (char) 0 + ";", 3);
        fault("by 1 < 2 < 3 ;", 9);
        fault("by 1 = 2 = 3 ;", 9);
        fault("by 1 < 2 = 3 ;", 9);
        fault("by < 2 ;", 3);
        fault("by + 2 ;", 3);
        fault("by 1 + + 2 ;", 7);
        fault("by 1 * * 2 ;", 7);
        fault("by 1 + not 2 ;", 7);
        fault("by 1 < not 2 ;", 7);
        fault("by - not 2 ;", 5);
        fault("by not ;", 7);
        fault("by 1 not ;", 5);
        fault("by 1 and ;", 9);
        fault("by 1 and or 2 ;", 9);
        fault("by ( ) ;", 5);
        fault("by ( 1 ;", 7);
        fault("by ( 1 rings ;", 7);
        fault("by 1 ) ;", 5);
        fault("by ( 1 ) ) ;", 9);
        fault("by (1)(2) ;", 6);
        fault("by 1 ; rings house house ;", 19);
    }

    private static void nothingIsLeftOnTheTape() {
        String[] then = {"by", "by 1", "by place", "by 1 <", "by 1 ; rings 0 ; tips 12 "};
        for (String text : then) {
            PapersEarly x = new PapersEarly();
            Streets.feed(x, "z".repeat(80) + "1".repeat(80));
            due.is("text() of a full tape", x.text(), -100);
            Streets.feed(x, text);
            due.is("text() of " + text + ", too short", x.text(), -100 - text.length());
            Streets.feed(x, "1".repeat(80));
            x.text();
            Streets.feed(x, text);
            due.is("text() of " + text + ", too short", x.text(), -100 - text.length());
        }
        PapersEarly x = new PapersEarly();
        Streets.feed(x, "by");
        x.text();
        Streets.feed(x, "by 5" + REST);
        due.is("text() behind a fault", x.text(), 1);
    }

    private static void depths() {
        fault("by ((((((1)))))) ;", 8);
        fault("by ------1 ;", 8);
        fault("by not not not not not not 1 ;", 23);
        fault("by (not (-(- 1))) ;", 11);
        fault("by not(-(-(1))) ;", 10);
        fault("by not - ( - ( - 1 ) ) ;", 15);
        fault("by (((((not 1))))) ;", 8);
        fault("by (((((-1))))) ;", 8);
        fault("by (((((1))))) + ((((((1)))))) ;", 22);
        stands("by (((((1))))) + (((((2))))) ;");
        stands("by -----1 + -----2 * -----3 - -----4 ;");
        stands("by not not not not not 1 and not not not not not 0 ;");
        stands("by not -(-(1 - 2 - 3 - 4)) ;");
        stands("by (1) * (2) * (3) * (4) * (5) * (6) * (7) ;");
        stands("by not (1) < -1 and not (2) = -2 or not (3) ;");
    }

    private static void stands(String by) {
        PapersEarly x = new PapersEarly();
        Streets.feed(x, by + "rings 0;tips 0;");
        due.is("text() of " + by, x.text(), 1);
    }

    private static void roomForTexts() {
        PapersEarly x = new PapersEarly();
        for (int i = 1; i <= 5; i++) {
            Streets.feed(x, "by " + i + REST);
            due.is("text()", x.text(), i);
        }
        due.is("text() with no room, of an empty tape", x.text(), FULL);
        Streets.feed(x, "by ?");
        due.is("FULL is ahead of a FAULT", x.text(), FULL);
        due.is("the tape stays", x.count(2), 4);
        x.house(0, 0, 0);
        for (int i = 5; i >= 1; i--) {
            x.force(i);
            due.is("each text is kept", x.told(0, 7), i);
        }
    }

    private static void forceChanges() {
        PapersEarly x = new PapersEarly();
        x.house(0, 0, 0);
        due.is("force(1): there is none", x.force(1), BAD);
        due.is("force(-1)", x.force(-1), BAD);
        due.is("force(0)", x.force(0), 0);
        Streets.feed(x, "by 7" + REST);
        x.text();
        due.is("force(1)", x.force(1), 0);
        due.is("count(3)", x.count(3), 1);
        due.is("told(0, 7)", x.told(0, 7), 7);
        due.is("force(2)", x.force(2), BAD);
        due.is("force(MAX)", x.force(Integer.MAX_VALUE), BAD);
        due.is("force(0)", x.force(0), 1);
        due.is("told(0, 7)", x.told(0, 7), 30);
    }
}
