/** Promises 1 to 6: a new object, house, set, bag, told, swap. */
public final class HousesTest {
    private static final int BAD = PapersEarly.BAD, FULL = PapersEarly.FULL;
    private static final Due due = new Due("HousesTest");

    public static void main(String[] args) {
        newObject();
        houseComes();
        setChanges();
        bagChanges();
        toldOfKinds();
        swapChanges();
        due.end();
    }

    private static void newObject() {
        PapersEarly x = new PapersEarly();
        int[] first = {0, 1, 0, 0, 12, 0, 0, 4, 1, 0, 1, 2, 3, 4};
        for (int what = 0; what < first.length; what++) {
            due.is("new: count(" + what + ")", x.count(what), first[what]);
        }
        due.is("new: told(0, 0)", x.told(0, 0), BAD);
        due.is("new: back()", x.back(), PapersEarly.STATE);
        for (int sheet = 0; sheet < 4; sheet++) {
            due.is("new: judge(" + sheet + ")", x.judge(sheet), -11);
        }
        x.house(0, 0, 0);
        due.is("another new object has no houses of this one", new PapersEarly().count(0), 0);
    }

    private static void houseComes() {
        PapersEarly x = new PapersEarly();
        due.is("house(3, 92, 981)", x.house(3, 92, 981), 0);
        int[] facts = {9, 98, 1, 2, 3, 0};
        for (int what = 0; what < facts.length; what++) {
            due.is("told(0, " + what + ")", x.told(0, what), facts[what]);
        }
        due.is("house(5, 93, 991)", x.house(5, 93, 991), 1);
        due.is("told(1, 0)", x.told(1, 0), 9);
        due.is("told(1, 1)", x.told(1, 1), 99);
        due.is("told(1, 4)", x.told(1, 4), 5);
        due.is("told(1, 5)", x.told(1, 5), 1);
        x.swap(0, 1);
        for (int h = 2; h < 7; h++) {
            due.is("house(0, 0, 0)", x.house(0, 0, 0), h);
            due.is("told(h, 5): behind the others", x.told(h, 5), h);
        }
        due.is("an eighth house", x.house(0, 0, 0), FULL);
        due.is("BAD is ahead of FULL", x.house(6, 0, 0), BAD);
        due.is("BAD is ahead of FULL", x.house(0, 0, 2), BAD);
    }

    private static void setChanges() {
        PapersEarly x = new PapersEarly();
        x.house(1, 23, 451);
        x.house(1, 11, 10);
        int[] was = {2, 45, 1, 3};
        int[] most = {9, 99, 1, 3};
        for (int what = 0; what < 4; what++) {
            due.is("set(0, " + what + ", 0)", x.set(0, what, 0), was[what]);
            due.is("told then", x.told(0, what), 0);
            due.is("set(0, " + what + ", most)", x.set(0, what, most[what]), 0);
            due.is("told then", x.told(0, what), most[what]);
        }
        due.is("the other house is as it was", x.told(1, 0) * 1000 + x.told(1, 1) * 100 + x.told(1, 3), 1101);
        due.is("its minutes are of the new number", x.told(0, 6), 10);
    }

    private static final int[] LEAST = {4, 0, 0, 1, 0, 0, 1, 1, 1, 1};
    private static final int[] MOST = {60, 99, 999, 9, 9, 9, 9, 9, 9, 9};

    private static void bagChanges() {
        PapersEarly x = new PapersEarly();
        int[] first = {12, 0, 0, 4, 1, 0, 1, 2, 3, 4};
        for (int what = 0; what < 10; what++) {
            due.is("bag(" + what + ", least)", x.bag(what, LEAST[what]), first[what]);
            due.is("count then", x.count(4 + what), LEAST[what]);
            due.is("bag(" + what + ", most)", x.bag(what, MOST[what]), LEAST[what]);
            due.is("count then", x.count(4 + what), MOST[what]);
        }
    }

    private static void toldOfKinds() {
        PapersEarly x = new PapersEarly();
        for (int kind = 0; kind < 6; kind++) {
            x.house(kind, 32, 0);
        }
        // NUMBER 3, SORT 2, which is 3 THICK: DOOR 1, GATE 1 + 3, DOG 1 + 3, STEPS 4 + 3, BELL 2 * 4, SLOT 4.
        int[] dry = {1, 4, 4, 7, 8, 4};
        takes(x, "odd, dry", dry);
        x.bag(5, 1);
        int[] wet = {1, 4, 4, 7, 8, 5};
        takes(x, "odd, wet", wet);
        x.bag(8, 9);
        for (int kind = 0; kind < 6; kind++) {
            due.is("kind", x.told(kind, 4), kind);
            x.set(kind, 0, 8);
        }
        int[] even = {1, 9, 1, 18, 2, 10};
        takes(x, "even, wet, thick", even);
        for (int h = 0; h < 6; h++) {
            due.is("told(" + h + ", 7)", x.told(h, 7), 30 + 5 * h);
        }
    }

    private static void takes(PapersEarly x, String when, int[] minutes) {
        for (int h = 0; h < minutes.length; h++) {
            due.is(when + ": told(" + h + ", 6)", x.told(h, 6), minutes[h]);
        }
    }

    private static void swapChanges() {
        PapersEarly x = new PapersEarly();
        for (int i = 0; i < 3; i++) {
            x.house(0, 0, 0);
        }
        due.is("swap(0, 2)", x.swap(0, 2), 2);
        due.is("swap(0, 1)", x.swap(0, 1), 1);
        due.is("swap(2, 2)", x.swap(2, 2), 0);
        // THE LIST is 1, 2, 0 now.
        due.is("told(1, 5)", x.told(1, 5), 0);
        due.is("told(2, 5)", x.told(2, 5), 1);
        due.is("told(0, 5)", x.told(0, 5), 2);
    }
}
