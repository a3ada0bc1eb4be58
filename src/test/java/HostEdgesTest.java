/** Promises 25 to 32 at their edges: THE IMAGE, what count() tells, SHEETS, HOUSES by a SHEET, KINDS. */
public final class HostEdgesTest {
    private static final int BAD = PapersEarly.BAD, NONE = PapersEarly.NONE, STATE = PapersEarly.STATE;
    private static final Due due = new Due("HostEdgesTest");

    public static void main(String[] args) {
        p25ofNoneAndOfSeven();
        p25changesNothing();
        p25theLastOneStands();
        p26none();
        p26eachThingThatIsKept();
        p26housesThatCameSince();
        p26whatIsNotKept();
        p26againAndAgain();
        p27firstAndLast();
        p27tellsWhatIs();
        p28shortestAndLongest();
        p28missing();
        p28becomesAnother();
        p29firstAndLastItem();
        p30firstAndLastItem();
        p30noneOfThem();
        p30ontoItself();
        p30otherItemsStay();
        p31noneAndSeven();
        p31lastPlaceThatFits();
        p31whatStoodAheadCame();
        p31othersAreLeftOut();
        p31sheetOfEachSort();
        p32underOneAnother();
        p32leastAndMostNumber();
        due.end();
    }

    // ---- 25: image

    private static void p25ofNoneAndOfSeven() {
        PapersEarly x = new PapersEarly();
        for (int many = 0; many <= 7; many++) {
            due.is("image() of " + many, x.image(), many);
            due.is("back() to " + many, x.back(), many);
            x.house(0, 0, 0);
        }
    }

    private static void p25changesNothing() {
        PapersEarly x = Streets.crowded();
        String before = Seen.now(x);
        x.image();
        due.holds("image() changes nothing that is seen now", Seen.now(x).equals(before));
        x.back();
        due.holds("nor does back() at once", Seen.now(x).equals(before));
    }

    private static void p25theLastOneStands() {
        PapersEarly x = Streets.doors(3);
        x.image();
        x.house(0, 0, 0);
        x.bag(0, 20);
        due.is("another image()", x.image(), 4);
        x.bag(0, 30);
        due.is("back() to the last one", x.back(), 4);
        due.is("BAG", x.count(4), 20);
        due.is("back() once more", x.back(), 4);
    }

    // ---- 26: back

    private static void p26none() {
        PapersEarly x = new PapersEarly();
        due.is("there is none", x.back(), STATE);
        x.house(0, 0, 0);
        due.is("there is none", x.back(), STATE);
        due.is("the HOUSE stays", x.count(0), 1);
        x.image();
        due.is("there is one", x.back(), 1);
    }

    private static final int[] OTHER = {33, 77, 555, 8, 7, 6, 5, 6, 7, 8};

    /** Each thing alone becomes another one; what is seen then is as it was when THE IMAGE was kept. */
    private static void p26eachThingThatIsKept() {
        for (int what = 0; what < 10; what++) {
            PapersEarly x = kept();
            String before = Seen.now(x);
            x.image();
            x.bag(what, OTHER[what]);
            due.holds("bag(" + what + ", ..) shows", !Seen.now(x).equals(before));
            x.back();
            due.holds("bag(" + what + ", ..) is as in THE IMAGE", Seen.now(x).equals(before));
        }
        int[] facts = {4, 66, 0, 2};
        for (int house = 0; house < 7; house += 6) {
            for (int what = 0; what < 4; what++) {
                PapersEarly x = kept();
                String before = Seen.now(x);
                x.image();
                x.set(house, what, facts[what]);
                due.holds("set(" + house + ", " + what + ", ..) shows", !Seen.now(x).equals(before));
                x.back();
                due.holds("set(" + house + ", " + what + ", ..) is as in THE IMAGE", Seen.now(x).equals(before));
            }
        }
        int[][] calls = {{0, 6}, {5, 6}, {0, 1}};
        for (int[] call : calls) {
            PapersEarly x = kept();
            String before = Seen.now(x);
            x.image();
            x.swap(call[0], call[1]);
            due.holds("THE LIST shows", !Seen.now(x).equals(before));
            x.back();
            due.holds("THE LIST is as in THE IMAGE", Seen.now(x).equals(before));
            x.arrange(0);
            x.force(0);
            due.holds("THE RULE shows", !Seen.now(x).equals(before));
            x.back();
            due.holds("THE RULE is as in THE IMAGE", Seen.now(x).equals(before));
        }
    }

    /** Seven houses that differ, by a rule of their own. */
    private static PapersEarly kept() {
        PapersEarly x = new PapersEarly();
        for (int h = 0; h < 7; h++) {
            x.house(5 - h % 6, 10 * (h + 1) + h % 2, 10 * (95 - 9 * h) + 1);
        }
        x.swap(1, 4);
        Streets.rule(x, "by place*4;rings house=3;tips 9*sort;");
        return x;
    }

    private static void p26housesThatCameSince() {
        for (int many = 0; many < 7; many++) {
            PapersEarly x = Streets.doors(many);
            String before = Seen.now(x);
            x.image();
            for (int i = many; i < 7; i++) {
                x.house(3, 93, 991);
            }
            if (many > 0) x.swap(0, 6);
            due.is("back(): how many HOUSES", x.back(), many);
            due.holds("HOUSES that came since go", Seen.now(x).equals(before));
            due.is("told(" + many + ", 0)", x.told(many, 0), BAD);
            due.is("another one comes then", x.house(2, 10, 0), many);
            due.is("with its own KIND", x.told(many, 4), 2);
            due.is("behind the others", x.told(many, 5), many);
        }
    }

    private static void p26whatIsNotKept() {
        PapersEarly x = Streets.doors(3);
        Streets.feed(x, "by 4");
        x.sheet(0, 1, 2);
        x.image();
        Streets.feed(x, "2;rings 0;tips 0;");
        due.is("a TEXT that comes since", x.text(), 1);
        Streets.feed(x, "by 7;ring");
        x.sheet(0, -1, 0);
        Streets.row(x, 1, 2, 0, 0, 0);
        x.back();
        due.is("TEXTS stay", x.count(1), 2);
        due.is("bytes of THE TAPE stay", x.count(2), 9);
        due.is("a missing SHEET stays missing", x.cell(0, 0, 0), -11);
        due.is("a SHEET stays", x.where(1, 0), 4);
        due.is("force(1)", x.force(1), 0);
        due.is("by 42", x.told(0, 7), 42);
        Streets.feed(x, "s 0;tips 0;");
        due.is("THE TAPE goes on", x.text(), 2);
        x.force(2);
        due.is("by 7", x.told(0, 7), 7);
        due.is("THE RULE is as in THE IMAGE, the text too", x.back() * 10 + x.count(3), 30);
    }

    private static void p26againAndAgain() {
        PapersEarly x = kept();
        String before = Seen.now(x);
        x.image();
        for (int i = 0; i < 2; i++) {
            x.bag(i, 50);
            x.set(i, 1, 3);
            x.arrange(i);
            due.is("back()", x.back(), 7);
            due.holds("THE IMAGE stays what it was", Seen.now(x).equals(before));
        }
    }

    // ---- 27: count

    private static void p27firstAndLast() {
        PapersEarly x = new PapersEarly();
        due.is("count(-1)", x.count(-1), BAD);
        due.is("count(0)", x.count(0), 0);
        due.is("count(13): THICK of SORT 3", x.count(13), 4);
        due.is("count(14)", x.count(14), BAD);
        x.bag(9, 9);
        due.is("count(13)", x.count(13), 9);
        x.bag(0, 60);
        due.is("count(4): BAG", x.count(4), 60);
        due.is("count(3): THE RULE", x.count(3), 0);
    }

    private static void p27tellsWhatIs() {
        PapersEarly x = Streets.fedFull();
        due.is("bytes of a full TAPE", x.count(2), 160);
        due.is("count(0)", x.count(0), 1);
        PapersEarly y = Streets.readFull();
        due.is("TEXTS, TEXT 0 with them", y.count(1), 6);
        due.is("THE RULE", y.count(3), 3);
        due.is("bytes of THE TAPE", y.count(2), 1);
        due.is("seven HOUSES", Streets.crowded().count(0), 7);
        for (int what = 0; what < 10; what++) {
            y.bag(what, OTHER[what]);
        }
        for (int what = 0; what < 10; what++) {
            due.is("as of bag(): count(" + (what + 4) + ")", y.count(what + 4), OTHER[what]);
        }
        due.is("the others stay", y.count(0) * 1000 + y.count(1) * 100 + y.count(2) * 10 + y.count(3), 2613);
    }

    // ---- 28: sheet

    private static void p28shortestAndLongest() {
        for (int sheet = 0; sheet < 4; sheet++) {
            for (int sort = 0; sort < 3; sort++) {
                for (int n : new int[] {0, 1, 2, 39, 40}) {
                    PapersEarly x = new PapersEarly();
                    String call = "sheet(" + sheet + ", " + sort + ", " + n + ")";
                    due.is(call, x.sheet(sheet, sort, n), 1);
                    due.is(call + ": its last item", x.cell(sheet, n - 1, 7), n == 0 ? -12 : 1);
                    due.is(call + ": none behind it", x.cell(sheet, n, 7), -12);
                    due.is(call + ": its sort", x.houses(sheet, sort, 0, 0), 0);
                    due.is(call + ": no other sort", x.houses(sheet, (sort + 1) % 3, 0, 0), -13);
                    due.is(call + ": another SHEET is missing", x.cell(3 - sheet, 0, 7), -11);
                    due.is(call + ": n above 40", x.sheet(sheet, sort, 41), BAD);
                    due.is(call + ": n below 0", x.sheet(sheet, sort, -1), -14);
                    due.is(call + ": it is as it was", x.cell(sheet, n - 1, 7), n == 0 ? -12 : 1);
                }
            }
        }
    }

    private static void p28missing() {
        PapersEarly x = new PapersEarly();
        int[] whatever = {0, 1, 40, 41, -1, Integer.MAX_VALUE, Integer.MIN_VALUE};
        for (int n : whatever) {
            x.sheet(2, 1, 5);
            due.is("sheet(2, -1, " + n + ")", x.sheet(2, -1, n), 1);
            due.is("it is missing", x.cell(2, 0, 0), -11);
            due.is("sheet(2, -1, " + n + ") of a missing one", x.sheet(2, -1, n), 1);
            due.is("it is missing", x.judge(2), -11);
        }
    }

    private static void p28becomesAnother() {
        PapersEarly x = Streets.doors(3);
        Streets.row(x, 0, 2, 1, 1, 1);
        x.sheet(0, 2, 3);
        due.is("all 0: nobody rings up", x.where(0, 0), 4);
        Streets.row(x, 0, 2, 1, 1, 1, 1, 1);
        x.sheet(0, 1, 3);
        due.is("all 0, of another sort, shorter", x.where(0, 0), 4);
        Streets.row(x, 0, 0, 1, 1);
        x.sheet(0, 0, 3);
        due.is("all 0, longer", x.where(0, 0), 4);
        Streets.row(x, 0, 0, 1, 1, 1);
        x.sheet(0, -1, 0);
        x.sheet(0, 0, 3);
        due.is("all 0, once it was missing", x.where(0, 0), 4);
    }

    // ---- 29: cell

    private static void p29firstAndLastItem() {
        for (int sort = 0; sort < 3; sort++) {
            PapersEarly x = new PapersEarly();
            x.sheet(1, sort, 40);
            due.is("cell(1, -1, 5)", x.cell(1, -1, 5), -12);
            for (int i = 0; i < 40; i++) {
                due.is("cell(1, " + i + ", 5)", x.cell(1, i, 5), 1);
            }
            due.is("cell(1, 40, 5)", x.cell(1, 40, 5), -12);
            x.house(0, 0, 0);
            x.bag(2, 5);
            x.sheet(2, sort, 1);
            for (int i = 0; i < 40; i += 39) {
                x.copy(1, i, 2, 0, 1);
                due.is("item " + i + " is 5", x.judge(2), NONE);
            }
        }
    }

    // ---- 30: copy

    /** These items stand on a sheet: each alone on sheet 3 is the minute in which one is at house 0. */
    private static void has(PapersEarly x, String when, int sheet, int... items) {
        for (int i = 0; i < items.length; i++) {
            x.copy(sheet, i, 3, 0, 1);
            x.bag(2, items[i]);
            due.is(when + ": item " + i + " is " + items[i], x.judge(3), NONE);
        }
    }

    /** One house at HEAP, so that sheet 3, of one item, is judged by BEGIN; sheets 0 and 1 of a sort. */
    private static PapersEarly rows(int sort) {
        PapersEarly x = Streets.doors(1);
        x.sheet(3, sort, 1);
        Streets.row(x, 0, sort, 11, 12, 13, 14, 15);
        Streets.row(x, 1, sort, 21, 22, 23);
        return x;
    }

    private static void p30firstAndLastItem() {
        for (int sort = 0; sort < 3; sort++) {
            PapersEarly x = rows(sort);
            due.is("the first", x.copy(0, 0, 1, 0, 1), 1);
            has(x, "the first", 1, 11, 22, 23);
            due.is("the last", x.copy(0, 4, 1, 2, 1), 1);
            has(x, "the last", 1, 11, 22, 15);
            due.is("all of the shorter", x.copy(1, 0, 0, 2, 3), 3);
            has(x, "all of the shorter", 0, 11, 12, 11, 22, 15);
            due.is("one more than it has", x.copy(1, 0, 0, 0, 4), -12);
            due.is("one more than has room", x.copy(0, 0, 1, 0, 4), -12);
            has(x, "refused", 0, 11, 12, 11, 22, 15);
            has(x, "refused", 1, 11, 22, 15);
        }
        PapersEarly x = new PapersEarly();
        x.sheet(0, 2, 40);
        x.sheet(1, 2, 40);
        due.is("all 40", x.copy(0, 0, 1, 0, 40), 40);
        due.is("41", x.copy(0, 0, 1, 0, 41), -12);
        due.is("40 from 1 on", x.copy(0, 1, 1, 0, 40), -12);
        due.is("40 to 1 on", x.copy(0, 0, 1, 1, 40), -12);
    }

    private static void p30noneOfThem() {
        PapersEarly x = rows(2);
        due.is("n 0", x.copy(0, 0, 1, 0, 0), 0);
        due.is("n 0 behind the last ones", x.copy(0, 5, 1, 3, 0), 0);
        due.is("n -1", x.copy(0, 0, 1, 0, -1), -12);
        due.is("n 0 from outside", x.copy(0, -1, 1, 0, 0), -12);
        due.is("n 0 to outside", x.copy(0, 0, 1, -1, 0), -12);
        has(x, "none came", 1, 21, 22, 23);
        PapersEarly empty = new PapersEarly();
        empty.sheet(0, 0, 0);
        empty.sheet(1, 0, 0);
        due.is("n 0 of no items", empty.copy(0, 0, 1, 0, 0), 0);
        due.is("n 1 of no items", empty.copy(0, 0, 1, 0, 1), -12);
    }

    private static void p30ontoItself() {
        for (int sort = 0; sort < 3; sort++) {
            PapersEarly up = rows(sort);
            due.is("upward", up.copy(0, 0, 0, 1, 4), 4);
            has(up, "as they were", 0, 11, 11, 12, 13, 14);
            PapersEarly down = rows(sort);
            due.is("downward", down.copy(0, 2, 0, 0, 3), 3);
            has(down, "as they were", 0, 13, 14, 15, 14, 15);
            due.is("onto the same place", down.copy(0, 0, 0, 0, 5), 5);
            has(down, "as they were", 0, 13, 14, 15, 14, 15);
        }
    }

    private static void p30otherItemsStay() {
        PapersEarly x = rows(1);
        x.copy(1, 1, 0, 2, 2);
        has(x, "other items stay", 0, 11, 12, 22, 23, 15);
        has(x, "the one SHEET stays", 1, 21, 22, 23);
    }

    // ---- 31: houses

    private static void p31noneAndSeven() {
        for (int n = 0; n <= 7; n++) {
            PapersEarly x = new PapersEarly();
            x.sheet(0, 1, 40);
            due.is("houses(0, 1, 0, " + n + ")", x.houses(0, 1, 0, n), n);
            due.is("count(0)", x.count(0), n);
        }
        PapersEarly x = Streets.doors(2);
        x.sheet(0, 1, 40);
        due.is("houses(0, 1, 0, -1)", x.houses(0, 1, 0, -1), BAD);
        due.is("houses(0, 1, 0, 8)", x.houses(0, 1, 0, 8), BAD);
        due.is("seven, five of which have room", x.houses(0, 1, 0, 7), 5);
        due.is("seven, none of which has room", x.houses(0, 1, 0, 7), 0);
        due.is("none of none", x.houses(0, 1, 0, 0), 0);
        due.is("none has room, and the last is outside", x.houses(0, 1, 20, 7), -12);
        due.is("none has room, the last fits just so", x.houses(0, 1, 19, 7), 0);
        due.is("count(0)", x.count(0), 7);
    }

    private static void p31lastPlaceThatFits() {
        for (int n = 1; n <= 7; n++) {
            PapersEarly x = new PapersEarly();
            x.sheet(0, 2, 40);
            due.is("from the last place on that fits", x.houses(0, 2, 40 - 3 * n, n), n);
            PapersEarly y = new PapersEarly();
            y.sheet(0, 2, 40);
            due.is("from the next place on", y.houses(0, 2, 41 - 3 * n, n), -12);
            due.is("those that stood ahead came", y.count(0), n - 1);
        }
        PapersEarly x = new PapersEarly();
        x.sheet(0, 2, 2);
        due.is("three numbers of two", x.houses(0, 2, 0, 1), -12);
        x.sheet(0, 2, 3);
        due.is("three numbers of three", x.houses(0, 2, 0, 1), 1);
        due.is("three numbers from 1 on", x.houses(0, 2, 1, 1), -12);
        due.is("three numbers from -1 on", x.houses(0, 2, -1, 1), -12);
    }

    private static void p31whatStoodAheadCame() {
        PapersEarly x = new PapersEarly();
        Streets.row(x, 0, 1, 3, 92, 981, 9, 9, 9, 4, 10, 20, 5);
        due.is("two come, one is left out, the fourth is outside", x.houses(0, 1, 0, 4), -12);
        due.is("count(0)", x.count(0), 2);
        due.is("KIND of the first", x.told(0, 4), 3);
        due.is("PLACE of the first", x.told(0, 1), 98);
        due.is("KIND of the second", x.told(1, 4), 4);
        due.is("once more", x.houses(0, 1, 0, 7), -12);
        due.is("count(0)", x.count(0), 4);
    }

    private static void p31othersAreLeftOut() {
        int[][] bad = {{6, 0, 0}, {-1, 0, 0}, {0, 4, 0}, {0, -1, 0}, {0, 100, 0}, {0, 0, 2}, {0, 0, -1}, {0, 0, 1000}};
        for (int[] b : bad) {
            PapersEarly x = new PapersEarly();
            Streets.row(x, 0, 2, b[0], b[1], b[2], 0, 0, 0, b[0], b[1], b[2]);
            due.is("one of three comes", x.houses(0, 2, 0, 3), 1);
            due.is("count(0)", x.count(0), 1);
            due.is("none comes", x.houses(0, 2, 0, 1), 0);
            due.is("none comes", x.houses(0, 2, 6, 1), 0);
            due.is("count(0)", x.count(0), 1);
        }
    }

    private static void p31sheetOfEachSort() {
        int[][] rows = {{5, 13, 121}, {5, 93, 991}, {5, 93, 991}};
        for (int sort = 0; sort < 3; sort++) {
            PapersEarly x = new PapersEarly();
            Streets.row(x, 3, sort, rows[sort]);
            due.is("houses(3, " + sort + ", 0, 1)", x.houses(3, sort, 0, 1), 1);
            int[] want = {rows[sort][1] / 10, rows[sort][2] / 10, 1, 3, 5, 0};
            for (int what = 0; what < want.length; what++) {
                due.is("told(0, " + what + ")", x.told(0, what), want[what]);
            }
            due.is("of another sort", x.houses(3, (sort + 1) % 3, 0, 1), -13);
            due.is("of another sort", x.houses(3, (sort + 2) % 3, 0, 1), -13);
            due.is("count(0)", x.count(0), 1);
        }
    }

    // ---- 32: taken

    private static void p32underOneAnother() {
        String[] under = {"0", "01", "02", "013", "024", "015"};
        for (int kind = 0; kind < 6; kind++) {
            PapersEarly x = new PapersEarly();
            x.house(kind, 70, 0);
            for (int k = 0; k < 6; k++) {
                boolean is = under[kind].indexOf('0' + k) >= 0;
                due.is("KIND " + kind + ": taken(0, " + k + ")", x.taken(0, k), is ? 7 : -13);
            }
            due.is("taken(0, -1)", x.taken(0, -1), BAD);
            due.is("taken(0, 6)", x.taken(0, 6), BAD);
        }
    }

    private static void p32leastAndMostNumber() {
        PapersEarly x = new PapersEarly();
        for (int house = 0; house < 7; house++) {
            x.house(5, 0, 0);
        }
        due.is("NUMBER 0", x.taken(0, 0), 0);
        x.set(6, 0, 9);
        due.is("NUMBER 9", x.taken(6, 1), 9);
        due.is("NUMBER 9", x.taken(6, 5), 9);
        due.is("no such HOUSE", x.taken(7, 5), -11);
        due.is("no such HOUSE", x.taken(-1, 5), -11);
    }
}
