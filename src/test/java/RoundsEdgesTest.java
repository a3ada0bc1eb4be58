/** Promises 10 to 13 at their edges: minutes, the bag, being late, TIPS, RING UP, SHIFTED, WHERE. */
public final class RoundsEdgesTest {
    private static final int BAD = PapersEarly.BAD, NONE = PapersEarly.NONE;
    private static final Due due = new Due("RoundsEdgesTest");

    public static void main(String[] args) {
        p10minutesAreCutUpward();
        p10heapIsWhereOneBegins();
        p10crossing();
        p10lateFromOneMinuteOn();
        p10lateAtTheBoundsOfBy();
        p10tipsOfKinds();
        p10tipsAreNothingAtLeast();
        p10tipsOfWhoRingsUp();
        p11withoutHouses();
        p11endsBehindTheLastDoor();
        p11bagHoldsJustSo();
        p11onePaperAtLeast();
        p11bagIsFullAnew();
        p11backKeepsTheSide();
        p11noBackBehindTheLast();
        p11sameAnswerTwice();
        p11lateCount();
        p11ringUp();
        p11purse();
        p12firstAndLastPlace();
        p12placeNothing();
        p12sameSorts();
        p12ringUpAndPurse();
        p12bySwappedList();
        p12withoutHouses();
        p12ofSeven();
        p13withoutHouses();
        p13sheetOfEachSort();
        p13ofSeven();
        p13neitherOneNorNothing();
        p13byHousesNotByPlaces();
        p13whoIsLate();
        due.end();
    }

    private static PapersEarly house(int kind, int what, int where) {
        PapersEarly x = new PapersEarly();
        x.house(kind, what, where);
        return x;
    }

    private static void ats(PapersEarly x, String when, int... minutes) {
        for (int h = 0; h < minutes.length; h++) {
            due.is(when + ": at(" + h + ", 0)", x.at(h, 0), minutes[h]);
        }
    }

    // ---- 10: at

    /** The fewest minutes in which one goes so far. */
    private static int minutes(int far, int pace) {
        int minutes = 0;
        while (minutes * pace < far) {
            minutes++;
        }
        return minutes;
    }

    private static void p10minutesAreCutUpward() {
        for (int pace = 1; pace <= 9; pace++) {
            PapersEarly x = Streets.doors(2);
            x.bag(3, pace);
            for (int far = 0; far <= 99; far += far < 21 || far > 88 ? 1 : 7) {
                x.set(0, 1, far);
                due.is("PACE " + pace + ", so far: " + far, x.at(0, 0), minutes(far, pace));
                due.is("and down again", x.at(1, 0), 2 * minutes(far, pace) + 1);
            }
        }
        due.is("99 places, PACE 4", minutes(99, 4), 25);
    }

    private static void p10heapIsWhereOneBegins() {
        PapersEarly x = house(0, 0, 500);
        int[][] heapAndMinutes = {{0, 13}, {46, 1}, {45, 2}, {50, 0}, {54, 1}, {55, 2}, {99, 13}};
        for (int[] w : heapAndMinutes) {
            x.bag(1, w[0]);
            due.is("HEAP " + w[0], x.at(0, 0), w[1]);
        }
        x.bag(2, 999);
        due.is("BEGIN 999", x.at(0, 0), 999 + 13);
    }

    private static void p10crossing() {
        PapersEarly x = new PapersEarly();
        for (int side : new int[] {0, 1, 1, 0, 0, 1}) {
            x.house(0, 0, side);
        }
        // One begins on SIDE 0; each door takes 1.
        ats(x, "CROSS 1", 0, 2, 3, 5, 6, 8);
        x.bag(4, 0);
        ats(x, "CROSS 0", 0, 1, 2, 3, 4, 5);
        x.bag(4, 9);
        ats(x, "CROSS 9", 0, 10, 11, 21, 22, 32);
        due.is("no crossing behind the last", x.round(0), 33);
        PapersEarly first = house(0, 0, 1);
        due.is("the first one on SIDE 1", first.at(0, 0), 1);
    }

    private static void p10lateFromOneMinuteOn() {
        PapersEarly x = Streets.doors(1);
        int[][] beginAndLate = {{0, 0}, {28, 0}, {29, 0}, {30, 0}, {31, 1}, {32, 2}, {999, 969}};
        for (int[] w : beginAndLate) {
            x.bag(2, w[0]);
            due.is("LATE, AT being " + w[0] + " and by 30", x.at(0, 1), w[1]);
            due.is("how many are LATE", x.round(2), w[1] > 0 ? 1 : 0);
        }
    }

    private static void p10lateAtTheBoundsOfBy() {
        PapersEarly x = Streets.doors(1);
        Streets.rule(x, "by 9999;rings 0;tips 0;");
        x.bag(2, 999);
        due.is("AT 999, by 999", x.at(0, 1), 0);
        x.set(0, 1, 1);
        due.is("AT 1000, by 999", x.at(0, 1), 1);
        Streets.rule(x, "by -9;rings 0;tips 0;");
        due.is("AT 1000, by 0", x.at(0, 1), 1000);
        x.bag(2, 0);
        x.set(0, 1, 0);
        due.is("AT 0, by 0", x.at(0, 1), 0);
        x.bag(2, 1);
        due.is("AT 1, by 0", x.at(0, 1), 1);
    }

    /** TIPS of a door of NUMBER 7, late by m, base being as told, at so much RAIN. */
    private static int tips(int kind, int m, int base, int rain) {
        PapersEarly x = house(kind, 70, 0);
        x.bag(2, 100 + m);
        x.bag(5, rain);
        Streets.rule(x, "by 100;rings 0;tips " + base + ";");
        return x.at(0, 2);
    }

    private static void p10tipsOfKinds() {
        for (int rain : new int[] {0, 1, 9}) {
            for (int m : new int[] {0, 1, 2, 5, 29, 30, 31, 36, 37, 38, 99}) {
                String of = ", late by " + m + ", RAIN " + rain;
                due.is("DOOR" + of, tips(0, m, 30, rain), Math.max(0, 30 - m));
                due.is("GATE" + of, tips(1, m, 30, rain), Math.max(0, 30 - m));
                due.is("DOG" + of, tips(2, m, 30, rain), Math.max(0, (30 - m) / 2));
                due.is("STEPS" + of, tips(3, m, 30, rain), Math.max(0, 30 - m + 7));
                due.is("BELL" + of, tips(4, m, 30, rain), Math.max(0, (30 - m) / 2 + (m == 0 ? 2 : 0)));
                due.is("SLOT" + of, tips(5, m, 30, rain), Math.max(0, 30 - m - rain));
            }
        }
    }

    private static void p10tipsAreNothingAtLeast() {
        int[][] all = {
            // kind, m, base, rain, TIPS
            {0, 3, 4, 0, 1}, {0, 4, 4, 0, 0}, {0, 5, 4, 0, 0}, {0, 899, 99, 0, 0}, {1, 98, 99, 0, 1}, {1, 99, 99, 0, 0},
            {2, 0, 1, 0, 0}, {2, 0, 2, 0, 1}, {2, 0, 3, 0, 1}, {2, 1, 4, 0, 1}, {2, 2, 4, 0, 1}, {2, 3, 4, 0, 0},
            {2, 9, 4, 0, 0}, {3, 10, 4, 0, 1}, {3, 11, 4, 0, 0}, {3, 12, 4, 0, 0}, {3, 0, 0, 0, 7}, {3, 6, 0, 0, 1},
            {4, 0, 0, 0, 2}, {4, 0, 1, 0, 2}, {4, 1, 1, 0, 0}, {4, 1, 3, 0, 1}, {4, 8, 4, 0, 0}, {4, 0, 99, 0, 51},
            {5, 0, 9, 9, 0}, {5, 0, 8, 9, 0}, {5, 0, 10, 9, 1}, {5, 1, 10, 9, 0}, {5, 0, 1, 1, 0}, {5, 0, 2, 1, 1}};
        for (int[] w : all) {
            due.is("TIPS of kind " + w[0] + ", late by " + w[1] + ", base " + w[2] + ", RAIN " + w[3],
                tips(w[0], w[1], w[2], w[3]), w[4]);
        }
    }

    private static void p10tipsOfWhoRingsUp() {
        PapersEarly x = Streets.doors(1);
        Streets.rule(x, "by 999;rings 1;tips 40;");
        due.is("it rings up", x.round(3), 1);
        due.is("TIPS then", x.at(0, 2), 40);
        due.is("PURSE has none of them", x.round(4), 0);
    }

    // ---- 11: round

    private static void p11withoutHouses() {
        PapersEarly x = new PapersEarly();
        for (int begin : new int[] {0, 1, 999}) {
            x.bag(2, begin);
            int[] want = {begin, 0, 0, 0, 0};
            for (int what = 0; what <= 4; what++) {
                due.is("no HOUSES, BEGIN " + begin + ": round(" + what + ")", x.round(what), want[what]);
            }
        }
    }

    private static void p11endsBehindTheLastDoor() {
        PapersEarly x = house(1, 93, 0);
        due.is("AT 0 and 10 at the door", x.round(0), 10);
        x.house(4, 10, 0);
        due.is("and 8 at the other", x.round(0), 18);
        x.swap(0, 1);
        due.is("the other way about", x.round(0), 18);
        due.is("AT of the last", x.at(0, 0), 8);
        PapersEarly slot = house(5, 0, 0);
        due.is("SLOT, RAIN 0", slot.round(0), 1);
        slot.bag(5, 1);
        due.is("SLOT, RAIN 1", slot.round(0), 2);
        due.is("AT stays", slot.at(0, 0), 0);
        slot.bag(4, 0);
        slot.bag(5, 9);
        due.is("SLOT, RAIN 9, CROSS 0", slot.round(0), 2);
    }

    /** Doors at PLACE 4, HEAP 0, of papers 1 (SORT 0) or 4 (SORT 3) thick. */
    private static PapersEarly bag(int bag, int... sorts) {
        PapersEarly x = new PapersEarly();
        x.bag(0, bag);
        for (int sort : sorts) {
            x.house(0, sort, 40);
        }
        return x;
    }

    private static void p11bagHoldsJustSo() {
        PapersEarly x = bag(12, 3, 3, 3);
        due.is("12 in 12", x.round(1), 0);
        ats(x, "12 in 12", 1, 2, 3);
        x.bag(0, 11);
        due.is("12 in 11", x.round(1), 1);
        ats(x, "12 in 11: back by 1 and there by 1", 1, 2, 5);
        due.is("8 in 8", bag(8, 3, 3).round(1), 0);
        due.is("8 in 7", bag(7, 3, 3).round(1), 1);
        due.is("5 in 5", bag(5, 0, 3).round(1), 0);
        due.is("5 in 4", bag(4, 0, 3).round(1), 1);
        due.is("4 in 4", bag(4, 3).round(1), 0);
        // As they come in THE LIST: a thin one behind a thick one for which no room is left is not taken.
        PapersEarly order = bag(5, 0, 3, 0);
        ats(order, "1 and 4, 1", 1, 2, 5);
        PapersEarly other = bag(5, 3, 3, 0);
        ats(other, "4, 4 and 1", 1, 4, 5);
        due.is("4, 4 and 1", other.round(1), 1);
    }

    private static void p11onePaperAtLeast() {
        PapersEarly x = bag(4, 3, 3, 3);
        x.bag(9, 9);
        due.is("9 in 4, thrice", x.round(1), 2);
        ats(x, "9 in 4, thrice", 1, 4, 7);
        due.is("one alone, thicker than BAG", bagOfOne().round(1), 0);
        x.set(2, 3, 0);
        due.is("9, 9, 1 in 4", x.round(1), 2);
        x.swap(0, 2);
        due.is("1, 9, 9 in 4", x.round(1), 2);
        x.swap(0, 1);
        due.is("9, 1, 9 in 4", x.round(1), 2);
        x.bag(9, 4);
        due.is("4, 1, 4 in 4", x.round(1), 2);
        x.bag(9, 3);
        due.is("3, 1, 3 in 4", x.round(1), 1);
    }

    private static PapersEarly bagOfOne() {
        PapersEarly x = bag(4, 3);
        x.bag(9, 9);
        return x;
    }

    private static void p11bagIsFullAnew() {
        PapersEarly x = bag(8, 3, 3, 3, 3, 3, 3, 3);
        due.is("two by two", x.round(1), 3);
        ats(x, "two by two", 1, 2, 5, 6, 9, 10, 13);
        x.bag(0, 4);
        due.is("one by one: each but the first", x.round(1), 6);
        due.is("ENDS", x.round(0), 1 + 6 * 3 + 1);
        x.bag(0, 60);
        due.is("all together", x.round(1), 0);
        x.bag(0, 28);
        due.is("just all together", x.round(1), 0);
        x.bag(0, 27);
        due.is("all but one", x.round(1), 1);
    }

    private static void p11backKeepsTheSide() {
        PapersEarly x = bag(4, 3, 3, 3);
        x.bag(4, 9);
        x.set(0, 2, 1);
        x.set(1, 2, 1);
        // 1 and 9 across, 1; back 1, there 1 on SIDE 1, 1; back 1, there 1 and 9 across.
        ats(x, "sides", 10, 13, 25);
        PapersEarly y = bag(4, 3, 3, 3);
        y.bag(4, 9);
        y.set(1, 2, 1);
        ats(y, "sides", 1, 13, 25);
    }

    private static void p11noBackBehindTheLast() {
        PapersEarly x = bag(4, 3, 3);
        due.is("BACKS", x.round(1), 1);
        due.is("ENDS: 1, 1, back and there 2, 1", x.round(0), 5);
        PapersEarly one = bag(4, 3);
        due.is("BACKS of one", one.round(1), 0);
        due.is("ENDS of one", one.round(0), 2);
    }

    private static void p11sameAnswerTwice() {
        PapersEarly x = bag(4, 3, 3, 3);
        x.bag(9, 9);
        x.bag(2, 28);
        for (int i = 0; i < 2; i++) {
            for (int what = 0; what <= 4; what++) {
                due.is("asked again: round(" + what + ")", x.round(what), new int[] {36, 2, 0, 0, 60}[what]);
            }
            ats(x, "asked again", 29, 32, 35);
        }
    }

    private static void p11lateCount() {
        PapersEarly x = Streets.doors(7);
        Streets.rule(x, "by 50;rings 0;tips 0;");
        // AT BEGIN, and each a minute later.
        int[][] beginAndLate = {{0, 0}, {44, 0}, {45, 1}, {46, 2}, {49, 5}, {50, 6}, {51, 7}, {999, 7}};
        for (int[] w : beginAndLate) {
            x.bag(2, w[0]);
            due.is("how many are LATE, BEGIN " + w[0], x.round(2), w[1]);
        }
    }

    private static void p11ringUp() {
        PapersEarly x = Streets.doors(7);
        String[] rings = {"0", "1", "house", "house=6", "house=0", "house<3", "late", "3<late", "not late"};
        int[] bits = {0, 127, 126, 64, 1, 7, 0, 0, 127};
        for (int i = 0; i < 5; i++) {
            ringing(x, rings[i], bits[i]);
        }
        PapersEarly y = Streets.doors(7);
        for (int i = 5; i < 9; i++) {
            ringing(y, rings[i], bits[i]);
        }
        PapersEarly z = Streets.doors(7);
        z.bag(2, 6);
        // Begun at 6, by 9: AT 6 .. 12.
        Streets.rule(z, "by 9;rings late;tips 5;");
        due.is("rings late", z.round(3), 64 + 32 + 16);
        Streets.rule(z, "by 9;rings 2<late;tips 5;");
        due.is("rings 2<late", z.round(3), 64);
        Streets.rule(z, "by 9;rings 3<late;tips 5;");
        due.is("rings 3<late", z.round(3), 0);
        z.swap(0, 6);
        Streets.rule(z, "by 9;rings 2<late;tips 5;");
        due.is("bits are of HOUSES, not of places", z.round(3), 1);
    }

    private static void ringing(PapersEarly x, String rings, int bits) {
        Streets.rule(x, "by 999;rings " + rings + ";tips 0;");
        due.is("RING UP, rings " + rings, x.round(3), bits);
    }

    private static void p11purse() {
        PapersEarly x = new PapersEarly();
        for (int i = 0; i < 7; i++) {
            x.house(3, 90, 0);
        }
        Streets.rule(x, "by 999;rings 0;tips 99;");
        due.is("the fullest PURSE", x.round(4), 7 * 108);
        Streets.rule(x, "by 999;rings house=2;tips house;");
        due.is("PURSE without house 2", x.round(4), 0 + 1 + 3 + 4 + 5 + 6 + 6 * 9);
        Streets.rule(x, "by 999;rings 1;tips 99;");
        due.is("PURSE, all ring up", x.round(4), 0);
        Streets.rule(x, "by 0;rings 0;tips 0;");
        x.bag(2, 999);
        due.is("PURSE, all are too late", x.round(4), 0);
    }

    // ---- 12: shifted

    /** Doors at HEAP of these SORTS; nobody rings up, each gives 20. */
    private static PapersEarly sorts(int... sorts) {
        PapersEarly x = new PapersEarly();
        for (int sort : sorts) {
            x.house(0, sort, 0);
        }
        return x;
    }

    private static void shifted(PapersEarly x, String when, int... wrong) {
        for (int k = 0; k < wrong.length; k++) {
            due.is(when + ": shifted(" + k + ", 0)", x.shifted(k, 0), wrong[k]);
        }
    }

    private static void p12firstAndLastPlace() {
        PapersEarly x = sorts(0, 1, 2);
        shifted(x, "sorts 0, 1, 2", 6, 6, 4, 0);
        due.is("shifted(3, 1)", x.shifted(3, 1), 0);
        due.is("shifted(3, 2)", x.shifted(3, 2), 60);
        due.is("shifted(4, 0)", x.shifted(4, 0), BAD);
        due.is("shifted(-1, 0)", x.shifted(-1, 0), BAD);
    }

    private static void p12placeNothing() {
        PapersEarly x = sorts(3, 0);
        shifted(x, "the one at place 0 gets its own", 2, 2, 0);
        PapersEarly one = sorts(3);
        shifted(one, "one HOUSE", 0, 0);
        due.is("shifted(2, 0) of one", one.shifted(2, 0), BAD);
    }

    private static void p12sameSorts() {
        shifted(sorts(2, 2, 2), "like sorts", 0, 0, 0, 0);
        shifted(sorts(2, 2, 1, 1, 2), "sorts 2, 2, 1, 1, 2", 20, 20, 20, 16, 16, 0);
        PapersEarly thick = sorts(0, 1);
        thick.bag(7, 1);
        shifted(thick, "another SORT, though as THICK", 2, 2, 0);
    }

    private static void p12ringUpAndPurse() {
        PapersEarly x = sorts(0, 1, 2);
        Streets.rule(x, "by 999;rings house=0;tips 10+house;");
        int[] rung = {7, 7, 5, 1};
        int[] purse = {0, 0, 11, 23};
        for (int k = 0; k <= 3; k++) {
            due.is("RING UP: shifted(" + k + ", 1)", x.shifted(k, 1), rung[k]);
            due.is("PURSE: shifted(" + k + ", 2)", x.shifted(k, 2), purse[k]);
        }
        due.is("round(3) stays", x.round(3), 1);
        due.is("round(4) stays", x.round(4), 23);
        due.is("the SORTS stay", x.told(1, 3), 1);
    }

    private static void p12bySwappedList() {
        PapersEarly x = sorts(0, 1, 1);
        x.swap(0, 2);
        // THE LIST 2, 1, 0: sorts 1, 1, 0.
        shifted(x, "by THE LIST", 1, 1, 1, 0);
        x.swap(1, 2);
        // THE LIST 2, 0, 1: sorts 1, 0, 1.
        shifted(x, "by THE LIST", 3, 3, 2, 0);
        PapersEarly steps = new PapersEarly();
        steps.house(3, 0, 0);
        steps.house(3, 3, 0);
        steps.house(0, 0, 0);
        // STEPS 1 and 1, 1 and 4: minutes are as ever, though it would get a thin paper.
        Streets.rule(steps, "by 6;rings late=1;tips 0;");
        due.is("AT of the last", steps.at(2, 0), 7);
        due.is("RING UP of the last", steps.shifted(0, 1), 2 | 4);
    }

    private static void p12withoutHouses() {
        PapersEarly x = new PapersEarly();
        for (int what = 0; what <= 2; what++) {
            due.is("no HOUSES: shifted(0, " + what + ")", x.shifted(0, what), 0);
            due.is("no HOUSES: shifted(1, " + what + ")", x.shifted(1, what), BAD);
        }
    }

    private static void p12ofSeven() {
        PapersEarly x = sorts(0, 1, 0, 1, 0, 1, 0);
        shifted(x, "seven", 126, 126, 124, 120, 112, 96, 64, 0);
        due.is("shifted(8, 0)", x.shifted(8, 0), BAD);
    }

    // ---- 13: where

    private static void where(PapersEarly x, String when, int sheet, int many, int least) {
        due.is(when + ": where(" + sheet + ", 0)", x.where(sheet, 0), many);
        due.is(when + ": where(" + sheet + ", 1)", x.where(sheet, 1), least);
    }

    private static void p13withoutHouses() {
        PapersEarly x = new PapersEarly();
        for (int sort = 0; sort < 3; sort++) {
            x.sheet(sort, sort, 0);
            where(x, "no HOUSES: place 0 alone", sort, 1, 0);
        }
    }

    private static void p13sheetOfEachSort() {
        PapersEarly x = sorts(0, 1, 1, 0);
        // Wrong: 1 and 3 by places 0, 1; 3 by 2, 3; none by 4.
        for (int sort = 0; sort < 3; sort++) {
            Streets.row(x, sort, sort, 0, 1, 0, 1);
            where(x, "sort " + sort, sort, 2, 0);
            x.cell(sort, 1, 0);
            where(x, "sort " + sort, sort, 2, 2);
            x.cell(sort, 3, 0);
            where(x, "sort " + sort, sort, 1, 4);
            x.cell(sort, 0, 1);
            where(x, "sort " + sort + ": nowhere", sort, 0, NONE);
        }
    }

    private static void p13ofSeven() {
        PapersEarly x = sorts(0, 1, 0, 1, 0, 1, 0);
        Streets.row(x, 0, 0, 0, 0, 0, 0, 0, 0, 0);
        where(x, "the last place", 0, 1, 7);
        x.cell(0, 6, 1);
        where(x, "place 6", 0, 1, 6);
        Streets.row(x, 0, 0, 0, 1, 1, 1, 1, 1, 1);
        where(x, "places 0, 1", 0, 2, 0);
        Streets.rule(x, "by 999;rings 1;tips 0;");
        Streets.row(x, 0, 0, 1, 1, 1, 1, 1, 1, 1);
        where(x, "all ring up, wherever", 0, 8, 0);
    }

    private static void p13neitherOneNorNothing() {
        PapersEarly x = sorts(0, 1);
        for (int v : new int[] {2, -1, 3, 100}) {
            Streets.row(x, 0, 2, 0, v);
            where(x, "a number of " + v, 0, 0, NONE);
        }
        Streets.row(x, 0, 0, 256, 257);
        where(x, "bytes of 256 and 257 are 0 and 1", 0, 2, 0);
    }

    private static void p13byHousesNotByPlaces() {
        PapersEarly x = sorts(0, 1, 1);
        x.swap(0, 1);
        // THE LIST 1, 0, 2 with sorts 1, 0, 1: 0 and 2 by places 0, 1; 2 by 2.
        Streets.row(x, 0, 1, 1, 0, 1);
        where(x, "0 and 2", 0, 2, 0);
        Streets.row(x, 0, 1, 0, 0, 1);
        where(x, "2", 0, 1, 2);
        Streets.row(x, 0, 1, 0, 1, 1);
        where(x, "1 and 2", 0, 0, NONE);
    }

    private static PapersEarly late() {
        PapersEarly x = sorts(0, 1, 1);
        x.bag(2, 36);
        Streets.row(x, 0, 0, 1, 0, 0);
        Streets.row(x, 1, 1, 1, 1, 0);
        Streets.row(x, 2, 2, 0, 1, 0);
        return x;
    }

    private static void p13whoIsLate() {
        // AT 36, 37, 38, by 30, 35, 40: house 0 is late by 6 and rings up, house 1 by 2 alone.
        due.answers(RoundsEdgesTest::late, 2, "where", 0, 0);
        due.answers(RoundsEdgesTest::late, 2, "where", 0, 1);
        due.answers(RoundsEdgesTest::late, 2, "where", 1, 0);
        due.answers(RoundsEdgesTest::late, 0, "where", 1, 1);
        due.answers(RoundsEdgesTest::late, 0, "where", 2, 0);
        due.answers(RoundsEdgesTest::late, NONE, "where", 2, 1);
        due.answers(RoundsEdgesTest::late, 3, "shifted", 1, 1);
        due.answers(RoundsEdgesTest::late, 1, "shifted", 2, 1);
        due.answers(RoundsEdgesTest::late, 20, "shifted", 1, 2);
        due.answers(RoundsEdgesTest::late, 16 + 20, "shifted", 3, 2);
    }
}
