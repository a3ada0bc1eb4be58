/** Promises 25 to 32: image, back, count, sheet, cell, copy, houses, taken. */
public final class HostTest {
    private static final int BAD = PapersEarly.BAD, NONE = PapersEarly.NONE, STATE = PapersEarly.STATE;
    private static final Due due = new Due("HostTest");

    public static void main(String[] args) {
        imageAndBack();
        imageStays();
        imageOfSeven();
        whatAnImageDoesNotKeep();
        backOfNone();
        countTells();
        sheetBecomes();
        cellBecomes();
        copyComes();
        copyOverlaps();
        housesCome();
        housesRunOut();
        takenForKinds();
        due.end();
    }

    private static PapersEarly street() {
        PapersEarly x = new PapersEarly();
        x.house(1, 23, 451);
        x.house(2, 31, 200);
        x.house(3, 12, 71);
        return x;
    }

    private static void changeAll(PapersEarly x) {
        x.swap(0, 2);
        int[] terms = {40, 33, 7, 9, 5, 6, 9, 8, 7, 6};
        for (int what = 0; what < terms.length; what++) {
            x.bag(what, terms[what]);
        }
        for (int h = 0; h < 3; h++) {
            x.set(h, 0, 8);
            x.set(h, 1, 88);
            x.set(h, 2, 1 - x.told(h, 2));
            x.set(h, 3, 0);
        }
        x.house(5, 0, 0);
        x.swap(3, 1);
    }

    private static void imageAndBack() {
        PapersEarly x = street();
        x.swap(0, 1);
        x.bag(0, 20);
        due.is("image()", x.image(), 3);
        String kept = Seen.now(x);
        changeAll(x);
        due.is("four houses now", x.count(0), 4);
        due.is("back()", x.back(), 3);
        due.holds("all is as in the image", Seen.now(x).equals(kept));
        due.is("the house that came since is gone", x.told(3, 0), BAD);
        due.is("a house of another kind comes", x.house(4, 10, 10), 3);
        due.is("behind the others", x.told(3, 5), 3);
        due.is("its kind", x.told(3, 4), 4);
    }

    private static void imageStays() {
        PapersEarly x = street();
        x.image();
        String kept = Seen.now(x);
        for (int i = 0; i < 3; i++) {
            changeAll(x);
            due.is("back() once more", x.back(), 3);
            due.holds("all is as in the image once more", Seen.now(x).equals(kept));
        }
        x.house(0, 0, 0);
        x.set(0, 0, 5);
        due.is("another image()", x.image(), 4);
        x.set(0, 0, 6);
        due.is("back() to the other one", x.back(), 4);
        due.is("told(0, 0)", x.told(0, 0), 5);
        PapersEarly none = new PapersEarly();
        due.is("image() of none", none.image(), 0);
        none.house(0, 0, 0);
        due.is("back() to none", none.back(), 0);
        due.is("count(0)", none.count(0), 0);
        due.is("house() is number 0 again", none.house(1, 10, 10), 0);
    }

    private static void imageOfSeven() {
        PapersEarly x = new PapersEarly();
        for (int h = 0; h < 7; h++) {
            x.house(h % 6, 10 * (h + 1) + h % 4, 10 * (90 - h) + h % 2);
        }
        x.swap(0, 6);
        due.is("image() of seven", x.image(), 7);
        String kept = Seen.now(x);
        for (int h = 0; h < 7; h++) {
            for (int what = 0; what < 4; what++) {
                x.set(h, what, 0);
            }
        }
        x.arrange(0);
        due.is("back() to seven", x.back(), 7);
        due.holds("all seven are as in the image", Seen.now(x).equals(kept));
    }

    private static void whatAnImageDoesNotKeep() {
        PapersEarly x = street();
        Streets.feed(x, "by 7 ; rings 0 ; tips 0 ;");
        x.text();
        x.force(1);
        x.image();
        Streets.feed(x, "by 9 ; rings 0 ; tips 0 ;");
        x.text();
        x.force(2);
        Streets.feed(x, "by");
        x.sheet(0, 0, 3);
        x.back();
        due.is("the rule is kept", x.count(3), 1);
        due.is("by", x.told(0, 7), 7);
        due.is("texts stay", x.count(1), 3);
        due.is("the tape stays", x.count(2), 2);
        due.is("sheets stay", x.cell(0, 2, 1), 1);
        x.force(2);
        due.is("the text that came since", x.told(0, 7), 9);
    }

    private static void backOfNone() {
        PapersEarly x = street();
        due.is("back()", x.back(), STATE);
        x.image();
        PapersEarly other = street();
        due.is("back() of another object", other.back(), STATE);
    }

    private static void countTells() {
        PapersEarly x = street();
        Streets.feed(x, "by 7 ; rings 0 ; tips 0 ;");
        due.is("count(2)", x.count(2), 25);
        x.text();
        x.force(1);
        x.feed(32);
        int[] terms = {40, 33, 7, 9, 5, 6, 9, 8, 7, 5};
        for (int what = 0; what < terms.length; what++) {
            x.bag(what, terms[what]);
            due.is("count(" + (4 + what) + ")", x.count(4 + what), terms[what]);
        }
        due.is("count(0)", x.count(0), 3);
        due.is("count(1)", x.count(1), 2);
        due.is("count(2)", x.count(2), 1);
        due.is("count(3)", x.count(3), 1);
        int[] wrong = {-1, 14, 15, Integer.MAX_VALUE, Integer.MIN_VALUE};
        for (int what : wrong) {
            due.is("count(" + what + ")", x.count(what), BAD);
        }
    }

    private static void sheetBecomes() {
        PapersEarly x = new PapersEarly();
        for (int sheet = 0; sheet < 4; sheet++) {
            for (int sort = 0; sort < 3; sort++) {
                due.is("sheet(.., 40)", x.sheet(sheet, sort, 40), 1);
                due.is("its last item", x.cell(sheet, 39, 1), 1);
                due.is("none behind it", x.cell(sheet, 40, 1), -12);
            }
            due.is("sheet(.., 0)", x.sheet(sheet, 0, 0), 1);
            due.is("no item", x.cell(sheet, 0, 1), -12);
            due.is("sheet(.., -1, ..)", x.sheet(sheet, -1, -99), 1);
            due.is("missing", x.cell(sheet, 0, 1), -11);
            due.is("missing once more, n does not matter", x.sheet(sheet, -1, 999), 1);
        }
        x.house(0, 0, 0);
        Streets.row(x, 0, 2, 77);
        x.sheet(0, 2, 1);
        due.is("all are 0 again", x.judge(0), NONE);
        x.sheet(1, 0, 5);
        due.is("no such sheet", x.sheet(-1, 0, 1), BAD);
        due.is("no such sheet", x.sheet(4, 0, 1), BAD);
        due.is("no such sheet, missing", x.sheet(4, -1, 1), BAD);
        due.is("no such sort", x.sheet(1, 3, 1), BAD);
        due.is("no such sort", x.sheet(1, -2, 1), BAD);
        due.is("no such sort is ahead of -14", x.sheet(1, 3, -1), BAD);
        due.is("too long", x.sheet(1, 0, 41), BAD);
        due.is("too long", x.sheet(1, 0, Integer.MAX_VALUE), BAD);
        due.is("below 0", x.sheet(1, 0, -1), -14);
        due.is("below 0", x.sheet(1, 2, Integer.MIN_VALUE), -14);
        due.is("after refusals it is as it was", x.cell(1, 4, 0), 1);
        due.is("after refusals it is as it was", x.cell(1, 5, 0), -12);
    }

    /** Whether an item is this number: house 0 is reached in minute v, and the sheet tells so. */
    private static boolean judged(int sort, int put, int v) {
        PapersEarly x = new PapersEarly();
        x.house(0, 0, 0);
        x.bag(2, v);
        Streets.row(x, 2, sort, put);
        return x.judge(2) == NONE;
    }

    private static void cellBecomes() {
        due.holds("byte 127", judged(0, 127, 127));
        due.holds("byte 256 + 5 is 5", judged(0, 261, 5));
        due.holds("byte -256 + 5 is 5", judged(0, -251, 5));
        due.holds("byte 128 is not 128", !judged(0, 128, 128));
        due.holds("short 999", judged(1, 999, 999));
        due.holds("short 65536 + 5 is 5", judged(1, 65541, 5));
        due.holds("short 256 + 5 is not 5", !judged(1, 261, 5));
        due.holds("int 65536 + 5 is not 5", !judged(2, 65541, 5));
        due.holds("int 999", judged(2, 999, 999));
        PapersEarly x = new PapersEarly();
        x.sheet(1, 0, 3);
        due.is("cell(-1, 0, 0)", x.cell(-1, 0, 0), BAD);
        due.is("cell(4, 0, 0)", x.cell(4, 0, 0), BAD);
        due.is("cell(0, -1, 0): missing is ahead of outside", x.cell(0, -1, 0), -11);
        due.is("cell(1, -1, 0)", x.cell(1, -1, 0), -12);
        due.is("cell(1, 3, 0)", x.cell(1, 3, 0), -12);
        due.is("cell(1, MAX, 0)", x.cell(1, Integer.MAX_VALUE, 0), -12);
        due.is("cell(1, MIN, 0)", x.cell(1, Integer.MIN_VALUE, 0), -12);
        due.is("cell(1, 2, 0)", x.cell(1, 2, 0), 1);
    }

    /** What a sheet has, told item by item: copied to sheet 3, each is the minute in which one is at house 0. */
    private static void has(PapersEarly x, String when, int sheet, int... items) {
        for (int i = 0; i < items.length; i++) {
            x.copy(sheet, i, 3, 0, 1);
            x.bag(2, items[i]);
            due.is(when + ": item " + i, x.judge(3), NONE);
        }
    }

    /** An object with one house where the heap lies, so that sheet 3, of one item, is judged by BEGIN. */
    private static PapersEarly probe(int sort) {
        PapersEarly x = new PapersEarly();
        x.house(0, 0, 0);
        x.sheet(3, sort, 1);
        return x;
    }

    private static void copyComes() {
        PapersEarly x = probe(2);
        Streets.row(x, 0, 2, 11, 12, 13, 14, 15);
        Streets.row(x, 1, 2, 21, 22, 23, 24);
        due.is("copy(0, 1, 1, 2, 2)", x.copy(0, 1, 1, 2, 2), 2);
        has(x, "the other one", 1, 21, 22, 12, 13);
        has(x, "the one", 0, 11, 12, 13, 14, 15);
        due.is("all of it", x.copy(1, 0, 0, 1, 4), 4);
        has(x, "then", 0, 11, 21, 22, 12, 13);
        due.is("none", x.copy(0, 5, 1, 4, 0), 0);
        due.is("none", x.copy(0, 0, 1, 0, 0), 0);
    }

    private static void copyOverlaps() {
        PapersEarly x = probe(1);
        Streets.row(x, 0, 1, 11, 12, 13, 14, 15);
        due.is("copy(0, 0, 0, 1, 4)", x.copy(0, 0, 0, 1, 4), 4);
        has(x, "upward, as they were", 0, 11, 11, 12, 13, 14);
        Streets.row(x, 0, 1, 11, 12, 13, 14, 15);
        due.is("copy(0, 1, 0, 0, 4)", x.copy(0, 1, 0, 0, 4), 4);
        has(x, "downward, as they were", 0, 12, 13, 14, 15, 15);
    }

    private static void housesCome() {
        PapersEarly x = new PapersEarly();
        Streets.row(x, 0, 1, 7, 3, 92, 981, 6, 0, 0, 5, 10, 11);
        due.is("houses(0, 1, 1, 3): the second is none", x.houses(0, 1, 1, 3), 2);
        due.is("count(0)", x.count(0), 2);
        int[] first = {9, 98, 1, 2, 3, 0};
        int[] second = {1, 1, 1, 0, 5, 1};
        for (int what = 0; what < 6; what++) {
            due.is("told(0, " + what + ")", x.told(0, what), first[what]);
            due.is("told(1, " + what + ")", x.told(1, what), second[what]);
        }
        due.is("n 0", x.houses(0, 1, 1, 0), 0);
        x.sheet(1, 0, 21);
        due.is("houses(1, 0, 0, 7): 5 have room", x.houses(1, 0, 0, 7), 5);
        due.is("count(0)", x.count(0), 7);
        due.is("none has room", x.houses(1, 0, 0, 7), 0);
        PapersEarly bytes = new PapersEarly();
        Streets.row(bytes, 0, 0, 0, 0, 200, 0, 0, 100);
        due.is("200 is no such number of a byte", bytes.houses(0, 0, 0, 2), 1);
        due.is("its place", bytes.told(0, 1), 10);
        PapersEarly ints = new PapersEarly();
        Streets.row(ints, 3, 2, 0, 0, 65536, 1, 90, 990);
        due.is("ints", ints.houses(3, 2, 0, 2), 1);
        due.is("its place", ints.told(0, 1), 99);
    }

    private static void housesRunOut() {
        PapersEarly x = new PapersEarly();
        x.sheet(0, 2, 8);
        due.is("two and a part", x.houses(0, 2, 0, 3), -12);
        due.is("what stood ahead came", x.count(0), 2);
        due.is("from 5 on: one", x.houses(0, 2, 5, 1), 1);
        due.is("from 6 on: a part", x.houses(0, 2, 6, 1), -12);
        due.is("from 8 on", x.houses(0, 2, 8, 1), -12);
        due.is("from -1 on", x.houses(0, 2, -1, 2), -12);
        due.is("from -3 on", x.houses(0, 2, -3, 2), -12);
        due.is("from MAX on", x.houses(0, 2, Integer.MAX_VALUE, 7), -12);
        due.is("from MIN on", x.houses(0, 2, Integer.MIN_VALUE, 7), -12);
        due.is("none came by these", x.count(0), 3);
        Streets.row(x, 1, 2, 9, 9, 9, 0, 0, 0);
        due.is("one is left out, one comes, one is outside", x.houses(1, 2, 0, 3), -12);
        due.is("count(0)", x.count(0), 4);
    }

    private static void takenForKinds() {
        PapersEarly x = new PapersEarly();
        for (int kind = 0; kind < 6; kind++) {
            x.house(kind, 10 * (kind + 3), 0);
        }
        String[] under = {"0", "01", "02", "013", "024", "015"};
        for (int kind = 0; kind < 6; kind++) {
            for (int k = 0; k < 6; k++) {
                boolean is = under[kind].indexOf('0' + k) >= 0;
                due.is("taken(" + kind + ", " + k + ")", x.taken(kind, k), is ? kind + 3 : -13);
            }
        }
        x.set(4, 0, 1);
        due.is("its number now", x.taken(4, 2), 1);
        due.is("taken(0, -1)", x.taken(0, -1), BAD);
        due.is("taken(0, 6)", x.taken(0, 6), BAD);
        due.is("k is ahead of the house", x.taken(9, 6), BAD);
        due.is("taken(6, 0)", x.taken(6, 0), -11);
        due.is("taken(-1, 5)", x.taken(-1, 5), -11);
        due.is("taken(MAX, 0)", x.taken(Integer.MAX_VALUE, 0), -11);
    }
}
