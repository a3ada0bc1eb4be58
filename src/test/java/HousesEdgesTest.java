/** Promises 1 to 6 at their edges: what the document says of houses, THE LIST and what bag() sets. */
public final class HousesEdgesTest {
    private static final int BAD = PapersEarly.BAD, FULL = PapersEarly.FULL, NONE = PapersEarly.NONE;
    private static final Due due = new Due("HousesEdgesTest");

    public static void main(String[] args) {
        p01numbersAtFirst();
        p01noHouses();
        p01ruleAtFirst();
        p01objectsStandAlone();
        p01lastOf512Calls();
        p02kinds();
        p02firstAndLastNumbers();
        p02sevenHouses();
        p02behindTheOthers();
        p02afterBack();
        p03firstAndLastNumbers();
        p03firstAndLastHouse();
        p03isUsed();
        p04firstAndLastNumbers();
        p04bagHolds();
        p04isUsed();
        p05takesOfKinds();
        p05takesOfSorts();
        p05byOfHouses();
        p05placeInTheList();
        p06firstAndLastPlace();
        p06samePlace();
        due.end();
    }

    private static void told(PapersEarly x, String when, int house, int... facts) {
        for (int what = 0; what < facts.length; what++) {
            due.is(when + ": told(" + house + ", " + what + ")", x.told(house, what), facts[what]);
        }
    }

    private static void list(PapersEarly x, String when, int... houses) {
        for (int i = 0; i < houses.length; i++) {
            due.is(when + ": place of house " + houses[i], x.told(houses[i], 5), i);
        }
    }

    // ---- 1: a new object

    private static void p01numbersAtFirst() {
        PapersEarly x = new PapersEarly();
        due.is("no HOUSES", x.count(0), 0);
        due.is("TEXT 0 with the TEXTS", x.count(1), 1);
        due.is("THE TAPE is empty", x.count(2), 0);
        due.is("THE RULE is TEXT 0", x.count(3), 0);
        int[] terms = {12, 0, 0, 4, 1, 0, 1, 2, 3, 4};
        for (int what = 0; what < 10; what++) {
            due.is("at first: count(" + (4 + what) + ")", x.count(4 + what), terms[what]);
            due.answers(Streets::bare, terms[what], "bag", what, 5);
        }
    }

    private static void p01noHouses() {
        PapersEarly x = new PapersEarly();
        due.is("told(0, 0)", x.told(0, 0), BAD);
        due.is("ENDS is BEGIN", x.round(0), 0);
        due.is("shifted(0, 1)", x.shifted(0, 1), 0);
        due.is("shifted(1, 1)", x.shifted(1, 1), BAD);
        due.is("back(): no IMAGE", x.back(), PapersEarly.STATE);
        for (int sheet = 0; sheet < 4; sheet++) {
            due.is("SHEETS are missing at first: cell(" + sheet + ", 0, 0)", x.cell(sheet, 0, 0), -11);
        }
    }

    private static void p01ruleAtFirst() {
        PapersEarly x = Streets.doors(7);
        for (int house = 0; house < 7; house++) {
            due.is("by 30 + house * 5", x.told(house, 7), 30 + 5 * house);
        }
        PapersEarly one = Streets.doors(1);
        int[][] lateAndTips = {{0, 20}, {1, 18}, {5, 10}, {6, 8}, {9, 2}, {10, 0}, {11, 0}, {20, 0}, {21, 0}, {969, 0}};
        for (int[] w : lateAndTips) {
            one.bag(2, 30 + w[0]);
            due.is("LATE", one.at(0, 1), w[0]);
            due.is("tips 20 - late, less m, late by " + w[0], one.at(0, 2), w[1]);
            due.is("rings 5 < late, late by " + w[0], one.round(3), w[0] > 5 ? 1 : 0);
        }
    }

    private static void p01objectsStandAlone() {
        PapersEarly one = Streets.livedWithLikeSheets();
        due.holds("a new object is as the first one was", Seen.all(new PapersEarly()).equals(Seen.all(Streets.bare())));
        PapersEarly other = new PapersEarly();
        other.bag(0, 60);
        other.image();
        String kept = Seen.all(Streets.livedWithLikeSheets());
        due.holds("another object changes nothing of it", Seen.all(one).equals(kept));
    }

    private static void p01lastOf512Calls() {
        PapersEarly x = new PapersEarly();
        for (int call = 1; call <= 255; call++) {
            due.is("call " + call, x.feed(32), call <= 160 ? call : FULL);
        }
        due.is("call 256", x.text(), -260);
        for (int call = 257; call <= 510; call++) {
            due.is("call " + call, x.bag(2, call), call == 257 ? 0 : call - 1);
        }
        due.is("call 511", x.house(3, 92, 0), 0);
        due.is("call 512", x.round(0), 510 + 1 + 9 + 3);
    }

    // ---- 2: house

    private static void p02kinds() {
        PapersEarly x = new PapersEarly();
        for (int kind = 0; kind <= 5; kind++) {
            due.is("house(" + kind + ", 51, 71)", x.house(kind, 51, 71), kind);
            told(x, "kind " + kind, kind, 5, 7, 1, 1, kind, kind);
        }
    }

    private static void p02firstAndLastNumbers() {
        int[][] all = {
            // what, where; NUMBER, PLACE, SIDE, SORT
            {0, 0, 0, 0, 0, 0}, {3, 0, 0, 0, 0, 3}, {90, 0, 9, 0, 0, 0}, {93, 0, 9, 0, 0, 3}, {10, 1, 1, 0, 1, 0},
            {9 * 10 + 1, 990, 9, 99, 0, 1}, {2, 991, 0, 99, 1, 2}, {12, 10, 1, 1, 0, 2}, {80, 981, 8, 98, 1, 0}};
        for (int[] w : all) {
            PapersEarly x = new PapersEarly();
            String call = "house(0, " + w[0] + ", " + w[1] + ")";
            due.is(call, x.house(0, w[0], w[1]), 0);
            told(x, call, 0, w[2], w[3], w[4], w[5]);
        }
        for (int what = -20; what <= 120; what++) {
            for (int where = -20; where <= 1020; where += where < 20 || where > 979 ? 1 : 40) {
                boolean good = what >= 0 && what < 100 && what % 10 < 4 && where >= 0 && where < 1000 && where % 10 < 2;
                due.answers(Streets::bare, good ? 0 : BAD, "house", 2, what, where);
            }
        }
    }

    private static void p02sevenHouses() {
        PapersEarly x = new PapersEarly();
        for (int house = 0; house < 7; house++) {
            due.is("HOUSES are numbered from 0", x.house(5, 93, 991), house);
            due.is("count(0)", x.count(0), house + 1);
        }
        due.is("7 at most", x.house(5, 93, 991), FULL);
        due.is("count(0)", x.count(0), 7);
    }

    private static void p02behindTheOthers() {
        PapersEarly x = Streets.doors(2);
        x.swap(0, 1);
        x.house(0, 0, 0);
        list(x, "behind two that are changed about", 1, 0, 2);
        x.set(0, 1, 99);
        x.set(1, 1, 50);
        x.arrange(0);
        list(x, "arranged", 2, 1, 0);
        x.house(0, 0, 0);
        list(x, "behind those that are arranged", 2, 1, 0, 3);
        x.house(6, 0, 0);
        x.house(0, 0, 0);
        list(x, "one that is refused is not in THE LIST", 2, 1, 0, 3, 4);
    }

    private static void p02afterBack() {
        PapersEarly x = Streets.doors(6);
        x.image();
        for (int i = 0; i < 3; i++) {
            due.is("the seventh", x.house(i, 93, 991), 6);
            due.is("the eighth", x.house(i, 93, 991), FULL);
            x.swap(6, i);
            x.back();
            list(x, "after back()", 0, 1, 2, 3, 4, 5);
            due.is("it is gone", x.told(6, 4), BAD);
        }
        x.house(4, 10, 20);
        told(x, "the seventh anew", 6, 1, 2, 0, 0, 4, 6, 8);
    }

    // ---- 3: set

    private static void p03firstAndLastNumbers() {
        PapersEarly x = new PapersEarly();
        x.house(1, 51, 401);
        x.house(1, 51, 401);
        int[] was = {5, 40, 1, 1};
        int[] most = {9, 99, 1, 3};
        for (int what = 0; what < 4; what++) {
            for (int v : new int[] {0, most[what], most[what] - 1, 0, most[what]}) {
                due.is("what it was: set(1, " + what + ", " + v + ")", x.set(1, what, v), was[what]);
                due.is("it becomes " + v, x.told(1, what), v);
                was[what] = v;
            }
            for (int other = 0; other < 4; other++) {
                due.is("the others stay: told(1, " + other + ")", x.told(1, other), was[other]);
            }
        }
        told(x, "the other house stays", 0, 5, 40, 1, 1, 1, 0);
    }

    private static void p03firstAndLastHouse() {
        PapersEarly x = Streets.doors(7);
        due.is("set(0, 1, 99)", x.set(0, 1, 99), 0);
        due.is("set(6, 1, 98)", x.set(6, 1, 98), 0);
        for (int house = 0; house < 7; house++) {
            due.is("told(" + house + ", 1)", x.told(house, 1), house == 0 ? 99 : house == 6 ? 98 : 0);
        }
    }

    private static void p03isUsed() {
        PapersEarly x = Streets.doors(1);
        Streets.rule(x, "by place*100+side*10+sort;rings 0;tips 0;");
        x.set(0, 1, 8);
        due.is("PLACE: 2 minutes", x.at(0, 0), 2);
        due.is("place", x.told(0, 7), 800);
        x.set(0, 2, 1);
        due.is("SIDE: a minute more", x.at(0, 0), 3);
        due.is("side", x.told(0, 7), 810);
        x.set(0, 3, 3);
        due.is("sort", x.told(0, 7), 813);
        due.is("THICK of SORT 3", x.away(1, 1), 4);
        PapersEarly gate = new PapersEarly();
        gate.house(1, 0, 0);
        gate.set(0, 0, 9);
        due.is("NUMBER: 9 minutes more", gate.told(0, 6), 10);
        due.is("taken(0, 1)", gate.taken(0, 1), 9);
    }

    // ---- 4: bag

    private static void p04firstAndLastNumbers() {
        int[] least = {4, 0, 0, 1, 0, 0, 1, 1, 1, 1};
        int[] most = {60, 99, 999, 9, 9, 9, 9, 9, 9, 9};
        int[] now = {12, 0, 0, 4, 1, 0, 1, 2, 3, 4};
        PapersEarly x = new PapersEarly();
        for (int what = 0; what < 10; what++) {
            for (int v : new int[] {least[what], most[what], most[what] - 1, least[what] + 1, most[what]}) {
                due.is("what it was: bag(" + what + ", " + v + ")", x.bag(what, v), now[what]);
                now[what] = v;
            }
            for (int other = 0; other < 10; other++) {
                due.is("the others stay: count(" + (4 + other) + ")", x.count(4 + other), now[other]);
            }
        }
    }

    /** BACKS of doors with papers so thick together: SORTS 0 .. 3 are 1, 9, 6, 7 thick. */
    private static int backs(int bag, int... sorts) {
        PapersEarly x = new PapersEarly();
        x.bag(0, bag);
        x.bag(7, 9);
        x.bag(8, 6);
        x.bag(9, 7);
        for (int sort : sorts) {
            x.house(0, sort, 0);
        }
        return x.round(1);
    }

    private static void p04bagHolds() {
        due.is("BAG 60 holds 60", backs(60, 1, 1, 1, 1, 1, 1, 2), 0);
        due.is("BAG 60 does not hold 61", backs(60, 1, 1, 1, 1, 1, 1, 3), 1);
        due.is("BAG 59 does not hold 60", backs(59, 1, 1, 1, 1, 1, 1, 2), 1);
        due.is("BAG 4 holds 4", backs(4, 0, 0, 0, 0), 0);
        due.is("BAG 4 does not hold 5", backs(4, 0, 0, 0, 0, 0), 1);
        due.is("BAG 5 holds 5", backs(5, 0, 0, 0, 0, 0), 0);
    }

    private static void p04isUsed() {
        PapersEarly x = new PapersEarly();
        x.house(5, 33, 601);
        // 60 places: 15 minutes, 1 across; 1 and 3 at the door.
        due.is("at first", x.round(0), 20);
        x.bag(1, 99);
        due.is("HEAP 99: 39 places, 10 minutes", x.round(0), 15);
        x.bag(1, 60);
        due.is("HEAP 60: none", x.round(0), 5);
        x.bag(2, 999);
        due.is("BEGIN 999", x.round(0), 1004);
        x.bag(1, 0);
        x.bag(2, 0);
        x.bag(3, 9);
        due.is("PACE 9: 7 minutes", x.round(0), 12);
        x.bag(3, 1);
        due.is("PACE 1: 60 minutes", x.round(0), 65);
        x.bag(4, 0);
        due.is("CROSS 0", x.round(0), 64);
        x.bag(4, 9);
        due.is("CROSS 9", x.round(0), 73);
        x.bag(5, 9);
        due.is("RAIN 9: a minute more", x.round(0), 74);
        for (int sort = 0; sort < 4; sort++) {
            x.bag(6 + sort, 9);
            x.set(0, 3, sort);
            due.is("THICK of SORT " + sort, x.away(1, 1), 9);
            x.bag(6 + sort, 1);
            due.is("THICK of SORT " + sort, x.away(1, 1), 1);
        }
    }

    // ---- 5: told

    private static int takes(int kind, int number, int sort, int rain) {
        PapersEarly x = new PapersEarly();
        x.house(kind, 10 * number + sort, 0);
        x.bag(5, rain);
        return x.told(0, 6);
    }

    private static void p05takesOfKinds() {
        for (int number = 0; number <= 9; number++) {
            for (int sort = 0; sort <= 3; sort++) {
                for (int rain : new int[] {0, 1, 9}) {
                    String of = " of NUMBER " + number + ", SORT " + sort + ", RAIN " + rain;
                    int odd = number % 2;
                    due.is("DOOR" + of, takes(0, number, sort, rain), 1);
                    due.is("GATE" + of, takes(1, number, sort, rain), 1 + number);
                    due.is("DOG" + of, takes(2, number, sort, rain), 1 + 3 * odd);
                    due.is("STEPS" + of, takes(3, number, sort, rain), 1 + number + sort + 1);
                    due.is("BELL" + of, takes(4, number, sort, rain), 2 + 6 * odd);
                    due.is("SLOT" + of, takes(5, number, sort, rain), 1 + number + (rain > 0 ? 1 : 0));
                }
            }
        }
    }

    private static void p05takesOfSorts() {
        PapersEarly x = new PapersEarly();
        x.house(3, 0, 0);
        for (int sort = 0; sort <= 3; sort++) {
            x.set(0, 3, sort);
            for (int thick : new int[] {1, 9}) {
                x.bag(6 + sort, thick);
                due.is("STEPS, SORT " + sort + " being " + thick + " THICK", x.told(0, 6), 1 + thick);
            }
        }
    }

    private static void p05byOfHouses() {
        PapersEarly x = new PapersEarly();
        x.house(0, 3, 991);
        x.house(5, 90, 0);
        Streets.rule(x, "by place*10+side+sort*2+rain*100-990;rings 0;tips 0;");
        due.is("house 0", x.told(0, 7), 7);
        due.is("house 1: by is 0 at least", x.told(1, 7), 0);
        x.bag(5, 9);
        due.is("house 0, RAIN 9", x.told(0, 7), 907);
        x.bag(2, 999);
        due.is("late is 0 for by, however late it is", x.told(0, 7), 907);
    }

    private static void p05placeInTheList() {
        PapersEarly x = Streets.doors(7);
        for (int i = 0; i < 3; i++) {
            x.swap(i, 6 - i);
        }
        list(x, "the other way about", 6, 5, 4, 3, 2, 1, 0);
    }

    // ---- 6: swap

    private static void p06firstAndLastPlace() {
        PapersEarly x = Streets.doors(7);
        due.is("swap(0, 6)", x.swap(0, 6), 6);
        list(x, "swap(0, 6)", 6, 1, 2, 3, 4, 5, 0);
        due.is("swap(6, 0)", x.swap(6, 0), 6);
        list(x, "swap(6, 0)", 0, 1, 2, 3, 4, 5, 6);
        due.is("swap(6, 5)", x.swap(6, 5), 5);
        due.is("places are told, not HOUSES", x.swap(5, 0), 0);
        list(x, "swap(5, 0)", 6, 1, 2, 3, 4, 0, 5);
    }

    private static void p06samePlace() {
        PapersEarly x = Streets.doors(3);
        x.swap(0, 1);
        due.is("swap(0, 0)", x.swap(0, 0), 1);
        due.is("swap(2, 2)", x.swap(2, 2), 2);
        list(x, "changed about with itself", 1, 0, 2);
        PapersEarly one = Streets.doors(1);
        due.is("swap(0, 0) of one", one.swap(0, 0), 0);
        due.is("the list changes, the houses stay", one.best(0, NONE), 1);
    }
}
