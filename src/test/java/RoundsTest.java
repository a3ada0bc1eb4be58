/** Promises 10 to 13: at, round, shifted, where. */
public final class RoundsTest {
    private static final int BAD = PapersEarly.BAD, NONE = PapersEarly.NONE;
    private static final Due due = new Due("RoundsTest");

    public static void main(String[] args) {
        roundGoes();
        paperTooThickForTheBag();
        backStaysOnItsSide();
        tipsOfKinds();
        tipsBelowNothing();
        lateAndPurse();
        shiftedSorts();
        whereItShifted();
        due.end();
    }

    /** Four houses, told in the test by hand; papers are 1, 4, 4, 4 thick. */
    private static PapersEarly street() {
        PapersEarly x = new PapersEarly();
        x.house(0, 0, 40);
        x.house(1, 23, 91);
        x.house(2, 33, 91);
        x.house(3, 13, 200);
        return x;
    }

    private static void ats(PapersEarly x, String when, int... minutes) {
        for (int h = 0; h < minutes.length; h++) {
            due.is(when + ": at(" + h + ", 0)", x.at(h, 0), minutes[h]);
        }
    }

    private static void roundGoes() {
        PapersEarly x = street();
        // 4 places: 1 minute, at 1; 1 at the door; 5 places: 2, across: 1, at 5; 3 there; at 8; 4 there: 12;
        // 9 + 4 are more than 12: back by 9 places: 3, 20 places: 5, across: 1, at 21; 1 + 1 + 4 there.
        ats(x, "bag 12", 1, 5, 8, 21);
        due.is("ENDS", x.round(0), 27);
        due.is("BACKS", x.round(1), 1);
        x.bag(0, 13);
        ats(x, "bag 13 holds just all", 1, 5, 8, 16);
        due.is("ENDS", x.round(0), 22);
        due.is("BACKS", x.round(1), 0);
        x.bag(2, 100);
        ats(x, "begin 100", 101, 105, 108, 116);
        x.bag(4, 0);
        ats(x, "no minutes for crossing", 101, 104, 107, 114);
        x.bag(3, 9);
        ats(x, "pace 9", 101, 103, 106, 112);
        x.bag(3, 1);
        ats(x, "pace 1", 104, 110, 113, 128);
        x.bag(3, 9);
        x.bag(1, 13);
        ats(x, "heap 13: 9 places", 101, 103, 106, 112);
        x.bag(1, 14);
        ats(x, "heap 14: 10 places", 102, 104, 107, 113);
        x.swap(0, 3);
        // THE LIST is 3, 1, 2, 0: 6 places, 6 there; 11 places, 3 there; 4 there; 5 places.
        ats(x, "another list", 117, 109, 112, 101);
        due.is("ENDS", x.round(0), 118);
    }

    private static void paperTooThickForTheBag() {
        PapersEarly x = new PapersEarly();
        x.house(0, 3, 40);
        x.house(0, 3, 40);
        x.house(0, 0, 40);
        x.bag(0, 4);
        x.bag(9, 9);
        // One paper at least is taken; behind one that is too thick there is no room for any.
        due.is("BACKS", x.round(1), 2);
        ats(x, "too thick", 1, 4, 7);
        x.bag(9, 4);
        x.swap(0, 2);
        // 1 and 4 are more than 4, so one goes back twice all the same.
        due.is("BACKS", x.round(1), 2);
        x.bag(0, 5);
        due.is("BACKS, one paper of 1 and one of 4 together", x.round(1), 1);
        x.set(1, 3, 0);
        due.is("BACKS, 1, 1, 4", x.round(1), 1);
        x.bag(0, 6);
        due.is("BACKS, 1, 1, 4 in 6", x.round(1), 0);
    }

    private static void backStaysOnItsSide() {
        PapersEarly x = new PapersEarly();
        x.bag(0, 4);
        x.bag(4, 9);
        x.house(0, 3, 81);
        x.house(0, 3, 81);
        x.house(0, 3, 80);
        // 2 and 9 across: 11; 12; back 2, there 2, no crossing: 16; 17; back 2, there 2, across 9: 30.
        ats(x, "sides", 11, 16, 30);
        due.is("ENDS", x.round(0), 31);
    }

    private static void tipsOfKinds() {
        PapersEarly x = new PapersEarly();
        for (int kind = 0; kind < 6; kind++) {
            x.house(kind, 30, 0);
        }
        Streets.rule(x, "by 50 ; rings 0 ; tips 21 ;");
        // Nobody is late: DOOR 21, GATE 21, DOG 10, STEPS 24, BELL 12, SLOT 21 less rain.
        tips(x, "in time", 21, 21, 10, 24, 12, 21);
        x.bag(5, 4);
        tips(x, "in time, rain", 21, 21, 10, 24, 12, 17);
        x.bag(5, 0);
        x.bag(2, 55);
        // TAKES are 1, 4, 4, 5, 8, 4: late by 5, 6, 10, 14, 19, 27.
        for (int h = 0; h < 6; h++) {
            due.is("late: at(" + h + ", 1)", x.at(h, 1), new int[] {5, 6, 10, 14, 19, 27}[h]);
        }
        tips(x, "late", 16, 15, 5, 10, 1, 0);
        due.is("PURSE", x.round(4), 47);
    }

    private static void tips(PapersEarly x, String when, int... want) {
        for (int h = 0; h < want.length; h++) {
            due.is(when + ": at(" + h + ", 2)", x.at(h, 2), want[h]);
        }
    }

    private static void tipsBelowNothing() {
        PapersEarly x = new PapersEarly();
        x.house(3, 90, 0);
        x.house(5, 90, 0);
        Streets.rule(x, "by 10 ; rings 0 ; tips 3 ;");
        x.bag(2, 18);
        // STEPS: 3 less 8 is below 0, and 9 more of it 4: only the end is brought up to 0.
        due.is("STEPS", x.at(0, 2), 4);
        due.is("SLOT", x.at(1, 2), 0);
        x.bag(2, 22);
        due.is("STEPS, 3 less 12 and 9", x.at(0, 2), 0);
        x.bag(2, 23);
        due.is("STEPS, below", x.at(0, 2), 0);
        x.bag(2, 0);
        x.bag(5, 9);
        due.is("SLOT, 3 less rain 9", x.at(1, 2), 0);
        due.is("PURSE", x.round(4), 12);
    }

    private static void lateAndPurse() {
        PapersEarly x = street();
        due.is("nobody is late", x.round(2), 0);
        due.is("nobody rings up", x.round(3), 0);
        due.is("PURSE 20 + 20 + 10 + 21", x.round(4), 71);
        x.bag(2, 30);
        // AT 31, 35, 38, 51; by 30, 35, 40, 45.
        due.is("LATE 0", x.at(0, 1), 1);
        due.is("LATE 1: just in time", x.at(1, 1), 0);
        due.is("LATE 2: early", x.at(2, 1), 0);
        due.is("LATE 3", x.at(3, 1), 6);
        due.is("how many are late", x.round(2), 2);
        due.is("RING UP: 5 < 6", x.round(3), 8);
        due.is("TIPS then, though it rings up: 14 less 6, and 1", x.at(3, 2), 9);
        due.is("PURSE without it: 19 less 1, 20, 10", x.round(4), 48);
        x.bag(2, 29);
        due.is("5 < 5 does not hold", x.round(3), 0);
        due.is("PURSE: 20, 20, 10, 15 less 5 and 1", x.round(4), 61);
        Streets.rule(x, "by 999 ; rings house = 2 ; tips 9 ;");
        due.is("who isn't late may ring up too", x.round(3), 4);
    }

    private static void shiftedSorts() {
        PapersEarly x = street();
        // Sorts by THE LIST: 0, 3, 3, 3.
        int[] wrong = {2, 2, 0, 0, 0};
        for (int k = 0; k <= 4; k++) {
            due.is("shifted(" + k + ", 0)", x.shifted(k, 0), wrong[k]);
            due.is("shifted(" + k + ", 1)", x.shifted(k, 1), wrong[k]);
            due.is("shifted(" + k + ", 2)", x.shifted(k, 2), wrong[k] == 0 ? 71 : 51);
        }
        x.swap(1, 3);
        x.set(2, 3, 1);
        // THE LIST 0, 3, 2, 1 with sorts 0, 3, 1, 3.
        int[] other = {14, 14, 6, 2, 0};
        for (int k = 0; k <= 4; k++) {
            due.is("shifted(" + k + ", 0)", x.shifted(k, 0), other[k]);
        }
        x.bag(2, 900);
        due.is("all are late", x.shifted(4, 1), 15);
        x.bag(2, 0);
        due.is("nobody is late", x.shifted(4, 1), 0);
        x.bag(2, 900);
        due.is("all are late", x.shifted(4, 2), 0);
        x.set(0, 3, 3);
        due.is("the one at place 0 gets its own", x.shifted(0, 0), 6);
        x.bag(2, 30);
        int late = x.round(3);
        due.holds("somebody rings up", late != 0);
        due.is("RING UP: both", x.shifted(3, 1), 2 | late);
        due.is("wrong sorts alone", x.shifted(3, 0), 2);
        // 31 and 1; 4, at 36, and 6; 3 and 1 across, at 46, and 4; 4, 4, 2 and 4 are more than 12: back 3, there 3.
        due.is("minutes are as ever", x.at(1, 0), 56);
    }

    private static void whereItShifted() {
        PapersEarly x = street();
        Streets.row(x, 0, 0, 0, 1, 0, 0);
        due.is("where(0, 0): shifted at 0 or 1", x.where(0, 0), 2);
        due.is("where(0, 1)", x.where(0, 1), 0);
        Streets.row(x, 1, 1, 0, 0, 0, 0);
        due.is("where(1, 0): at 2, 3, 4", x.where(1, 0), 3);
        due.is("where(1, 1)", x.where(1, 1), 2);
        Streets.row(x, 3, 2, 1, 0, 0, 0);
        due.is("where(3, 0): nowhere", x.where(3, 0), 0);
        due.is("where(3, 1)", x.where(3, 1), NONE);
        Streets.row(x, 3, 2, 0, 2, 0, 0);
        due.is("2 tells neither that one rings up nor that one doesn't", x.where(3, 0), 0);
        x.swap(0, 1);
        // THE LIST 1, 0, 2, 3: the sheet tells of houses by their numbers, sorts are 3, 0, 3, 3.
        Streets.row(x, 2, 0, 1, 0, 1, 0);
        due.is("where(2, 0)", x.where(2, 0), 2);
        Streets.row(x, 2, 0, 0, 0, 1, 0);
        due.is("where(2, 1)", x.where(2, 1), 2);
        x.bag(2, 900);
        Streets.row(x, 2, 0, 1, 1, 1, 1);
        due.is("all ring up wherever it shifted", x.where(2, 0), 5);
        due.is("where(2, 1)", x.where(2, 1), 0);
        PapersEarly none = new PapersEarly();
        none.sheet(0, 2, 0);
        due.is("no houses: place 0", none.where(0, 0), 1);
        due.is("no houses: place 0", none.where(0, 1), 0);
    }
}
