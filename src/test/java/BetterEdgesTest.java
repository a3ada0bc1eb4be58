import java.util.Random;

/** Promises 14 to 24 at their edges: BEST, SIDES, ACROSS, BEGIN, HEAP, SPLIT, DROP, AWAY, JUDGED, THROWN. */
public final class BetterEdgesTest {
    private static final int BAD = PapersEarly.BAD, NONE = PapersEarly.NONE;
    private static final Due due = new Due("BetterEdgesTest");

    public static void main(String[] args) {
        p14withoutHouses();
        p14firstAndLastPlace();
        p14ofLikeOnesTheFirst();
        p14purseWhateverEnds();
        p14tipsOfTheLatest();
        p14bagSidesAndHeap();
        p14listDoesNotMatter();
        p14isAskedAnew();
        p15listTrulyBecomes();
        p15withoutHouses();
        p15allOrders();
        p16withoutHouses();
        p16upOneSideDownTheOther();
        p16acrossUpward();
        p16ofLikeOnesByNumbers();
        p17firstAndLastBegin();
        p17latestByWhichNobodyIsLate();
        p17withoutHouses();
        p18firstAndLastHeap();
        p18ofLikeOnesTheLeast();
        p18withoutHouses();
        p19placesOfSplit();
        p19bothBeginAlike();
        p19withoutHouses();
        p20oneOfThem();
        p20bagsAreFilledOtherwise();
        p21noneAndAll();
        p21bits();
        p22firstAndLastPlace();
        p22sheetOfEachSort();
        p22withoutHouses();
        p23oddsOfNothingAndTen();
        p23justBelowOdds();
        p23withoutHouses();
        p24firstAndLastMany();
        p24lowestTerms();
        p24withoutHouses();
        due.end();
    }

    /** Doors at these PLACES of SIDE 0. */
    private static PapersEarly at(int... places) {
        PapersEarly x = new PapersEarly();
        for (int place : places) {
            x.house(0, 0, 10 * place);
        }
        return x;
    }

    private static void best(PapersEarly x, String when, int sort, int... houses) {
        for (int i = 0; i < houses.length; i++) {
            due.is(when + ": best(" + sort + ", " + i + ")", x.best(sort, i), houses[i]);
        }
    }

    private static void list(PapersEarly x, String when, int... houses) {
        for (int i = 0; i < houses.length; i++) {
            due.is(when + ": place of house " + houses[i], x.told(houses[i], 5), i);
        }
    }

    /** THE LIST becomes this order, by swap() alone. */
    private static void order(PapersEarly x, int... houses) {
        for (int i = 0; i < houses.length; i++) {
            x.swap(i, x.told(houses[i], 5));
        }
    }

    // ---- 14: best

    private static void p14withoutHouses() {
        PapersEarly x = new PapersEarly();
        for (int begin : new int[] {0, 999}) {
            x.bag(2, begin);
            due.is("best(0, NONE): BEGIN", x.best(0, NONE), begin);
            due.is("best(1, NONE)", x.best(1, NONE), 0);
            due.is("best(0, 0)", x.best(0, 0), BAD);
            due.is("best(1, 0)", x.best(1, 0), BAD);
        }
    }

    private static void p14firstAndLastPlace() {
        PapersEarly one = at(8);
        best(one, "one HOUSE", 0, 0);
        best(one, "one HOUSE", 1, 0);
        due.is("best(0, 1) of one", one.best(0, 1), BAD);
        due.is("best(0, NONE) of one", one.best(0, NONE), 3);
        due.is("best(1, NONE) of one", one.best(1, NONE), 20);
        PapersEarly x = at(96, 0, 80, 16, 64, 32, 48);
        best(x, "seven", 0, 1, 3, 5, 6, 4, 2, 0);
        due.is("best(0, NONE) of seven", x.best(0, NONE), 24 + 7);
        due.is("best(0, 7) of seven", x.best(0, 7), BAD);
        due.is("best(1, 7) of seven", x.best(1, 7), BAD);
    }

    private static void p14ofLikeOnesTheFirst() {
        PapersEarly like = Streets.doors(7);
        best(like, "all alike", 0, 0, 1, 2, 3, 4, 5, 6);
        best(like, "all alike", 1, 0, 1, 2, 3, 4, 5, 6);
        // From 40 it is as far to 20 and 60 as to 60 and 20.
        PapersEarly two = at(60, 20);
        two.bag(1, 40);
        best(two, "both ends are as far", 0, 0, 1);
        PapersEarly other = at(20, 60);
        other.bag(1, 40);
        best(other, "both ends are as far", 0, 0, 1);
        // 0 at 20, 1 and 3 at 4, 2 at 12: 1, 3, 2, 0 and 3, 1, 2, 0 are as soon.
        best(at(20, 4, 12, 4), "like places", 0, 1, 3, 2, 0);
        best(at(20, 12, 4, 12), "like places further on", 0, 2, 1, 3, 0);
        // Within a minute's way places are alike: PACE 9, all 9 off at most.
        PapersEarly near = at(9, 1, 5);
        near.bag(3, 9);
        best(near, "a minute for each of two ways", 0, 0, 1, 2);
        due.is("its ENDS", near.best(0, NONE), 6);
    }

    private static void p14purseWhateverEnds() {
        PapersEarly x = at(40, 1, 20);
        due.is("nobody is late in any order: 60", x.best(1, NONE), 60);
        best(x, "the first, though it ends late", 1, 0, 1, 2);
        best(x, "the soonest", 0, 1, 2, 0);
        Streets.rule(x, "by 0;rings late;tips 99;");
        due.is("all ring up in any order", x.best(1, NONE), 0);
        best(x, "all ring up in any order", 1, 0, 1, 2);
        x.bag(1, 20);
        due.is("who is first and at HEAP does not", x.best(1, NONE), 99);
        best(x, "who is first and at HEAP does not", 1, 2, 0, 1);
        Streets.rule(x, "by 0;rings late=0;tips 99;");
        // 0, 2, 1 and 1, 2, 0: AT 5, 11, 17; who is reached at once rings up.
        due.is("late ones give", x.best(1, NONE), 94 + 88 + 82);
        best(x, "late ones give", 1, 0, 2, 1);
    }

    private static void p14tipsOfTheLatest() {
        PapersEarly x = new PapersEarly();
        x.house(3, 90, 0);
        Streets.rule(x, "by 0;rings 0;tips 99;");
        int[][] beginAndPurse = {{0, 108}, {1, 107}, {106, 2}, {107, 1}, {108, 0}, {109, 0}, {999, 0}};
        for (int[] w : beginAndPurse) {
            x.bag(2, w[0]);
            due.is("STEPS, late by " + w[0], x.best(1, NONE), w[1]);
        }
    }

    private static void p14bagSidesAndHeap() {
        // SORT 3 is 4 thick: one goes back once; best with 4 and 4, then 4.
        PapersEarly bag = new PapersEarly();
        bag.bag(0, 8);
        bag.house(0, 3, 400);
        bag.house(0, 3, 40);
        bag.house(0, 3, 400);
        best(bag, "both far ones by one bag", 0, 0, 2, 1);
        due.is("10, 1, 0, 1, back 10 and 1, 1", bag.best(0, NONE), 24);
        bag.set(2, 1, 4);
        best(bag, "both near ones by one bag", 0, 1, 2, 0);
        due.is("1, 1, 0, 1, back 1 and 10, 1", bag.best(0, NONE), 15);
        bag.bag(0, 12);
        due.is("all by one bag: 1, 1, 0, 1, 9, 1", bag.best(0, NONE), 13);
        bag.bag(0, 8);
        bag.set(2, 1, 40);
        bag.bag(1, 40);
        best(bag, "from the far end", 0, 0, 2, 1);
        due.is("0, 1, 0, 1, back 0 and 9, 1", bag.best(0, NONE), 12);
        PapersEarly sides = new PapersEarly();
        sides.bag(4, 9);
        sides.house(0, 0, 1);
        sides.house(0, 0, 80);
        sides.house(0, 0, 1);
        sides.house(0, 0, 40);
        // 3 at 1, 1 at 3; back by 2 and 9 across: 0 at 15, 2 at 16. Crossing once alone.
        best(sides, "SIDE 0 first", 0, 1, 3, 0, 2);
        due.is("2, 1, 1, 1, 1 and 9, 1, 1", sides.best(0, NONE), 17);
        sides.bag(5, 9);
        due.is("RAIN does not matter to doors", sides.best(0, NONE), 17);
        PapersEarly slot = new PapersEarly();
        slot.house(5, 90, 0);
        due.is("SLOT, RAIN 0", slot.best(0, NONE), 10);
        slot.bag(5, 1);
        due.is("SLOT, RAIN 1", slot.best(0, NONE), 11);
        due.is("its TIPS", slot.best(1, NONE), 19);
        Streets.rule(slot, "by 999;rings rain=2;tips rain*10;");
        due.is("its TIPS by RAIN 1", slot.best(1, NONE), 9);
        slot.bag(5, 2);
        due.is("it rings up by RAIN 2", slot.best(1, NONE), 0);
        slot.bag(5, 3);
        due.is("its TIPS by RAIN 3", slot.best(1, NONE), 27);
    }

    private static void p14listDoesNotMatter() {
        PapersEarly x = at(20, 4, 12);
        order(x, 2, 0, 1);
        best(x, "another LIST", 0, 1, 2, 0);
        due.is("best(0, NONE)", x.best(0, NONE), 8);
        order(x, 0, 1, 2);
        best(x, "another LIST", 0, 1, 2, 0);
        list(x, "best() leaves THE LIST", 0, 1, 2);
        due.is("and the round", x.round(0), 14);
    }

    private static void p14isAskedAnew() {
        PapersEarly x = new PapersEarly();
        x.house(5, 12, 401);
        x.house(3, 23, 200);
        int[] terms = {4, 60, 7, 9, 5, 6, 9, 8, 7, 6};
        x.best(0, NONE);
        x.best(1, NONE);
        for (int what = 0; what < 10; what++) {
            x.bag(what, terms[what]);
            PapersEarly fresh = new PapersEarly();
            fresh.house(5, 12, 401);
            fresh.house(3, 23, 200);
            for (int w = 0; w <= what; w++) {
                fresh.bag(w, terms[w]);
            }
            for (int sort = 0; sort < 2; sort++) {
                due.is("after bag(" + what + ", ..): best(" + sort + ", NONE)", x.best(sort, NONE), fresh.best(sort, NONE));
                due.is("after bag(" + what + ", ..): best(" + sort + ", 0)", x.best(sort, 0), fresh.best(sort, 0));
            }
        }
        PapersEarly y = at(40, 8);
        best(y, "at first", 0, 1, 0);
        y.set(0, 1, 4);
        best(y, "after set()", 0, 0, 1);
        y.image();
        y.set(1, 1, 0);
        best(y, "after set()", 0, 1, 0);
        y.back();
        best(y, "after back()", 0, 0, 1);
        y.house(0, 0, 0);
        best(y, "after house()", 0, 2, 0, 1);
        y.back();
        best(y, "after back()", 0, 0, 1);
        due.is("after back()", y.best(0, 2), BAD);
    }

    // ---- 15: arrange

    private static void p15listTrulyBecomes() {
        PapersEarly x = at(20, 4, 12);
        due.is("arrange(0): ENDS then", x.arrange(0), 8);
        list(x, "arrange(0)", 1, 2, 0);
        due.is("round(0)", x.round(0), 8);
        due.is("arrange(0) once more", x.arrange(0), 8);
        due.is("arrange(1): ENDS, not PURSE", x.arrange(1), 14);
        list(x, "arrange(1)", 0, 1, 2);
        due.is("round(0)", x.round(0), 14);
        due.is("swap() goes on from there", x.swap(0, 2), 2);
        list(x, "swap(0, 2)", 2, 1, 0);
    }

    private static void p15withoutHouses() {
        PapersEarly x = new PapersEarly();
        x.bag(2, 999);
        due.is("arrange(0): BEGIN", x.arrange(0), 999);
        due.is("arrange(1): BEGIN", x.arrange(1), 999);
        PapersEarly one = at(99);
        due.is("arrange(0) of one", one.arrange(0), 26);
        due.is("arrange(1) of one", one.arrange(1), 26);
    }

    /** Drawn streets, with all that can matter: BEST as the model finds it by walking every order. */
    private static void p15allOrders() {
        Random random = new Random(20261119);
        String[] rules = {
            "by house*7;rings 9<late;tips 60-late;", "by place;rings side=late;tips late*3;",
            "by 12*sort;rings 0;tips 40+rain*house;", "by 30;rings late=rain*2 and not late=0;tips 99;"};
        for (int run = 0; run < 40; run++) {
            PapersEarly x = new PapersEarly();
            Model model = new Model();
            int many = run % 4 == 0 ? 7 : 2 + random.nextInt(5);
            for (int h = 0; h < many; h++) {
                int[] args = {random.nextInt(6), 10 * random.nextInt(10) + random.nextInt(4),
                    10 * random.nextInt(run % 3 == 0 ? 12 : 100) + random.nextInt(2)};
                x.house(args[0], args[1], args[2]);
                model.house(args[0], args[1], args[2]);
            }
            int[] terms = {4 + random.nextInt(12), random.nextInt(100), random.nextInt(30), 1 + random.nextInt(9),
                random.nextInt(10), random.nextInt(10)};
            for (int what = 0; what < terms.length; what++) {
                x.bag(what, terms[what]);
                model.bag(what, terms[what]);
            }
            for (char c : rules[run % 4].toCharArray()) {
                x.feed(c);
                model.feed(c);
            }
            x.force(x.text());
            model.force(model.text());
            for (int sort = 0; sort < 2; sort++) {
                String when = "street " + run + ", sort " + sort;
                due.is(when + ": best", x.best(sort, NONE), model.best(sort, NONE));
                due.is(when + ": arrange", x.arrange(sort), model.arrange(sort));
                for (int h = 0; h < many; h++) {
                    due.is(when + ": told(" + h + ", 5)", x.told(h, 5), model.told(h, 5));
                    due.is(when + ": at(" + h + ", 0)", x.at(h, 0), model.at(h, 0));
                }
                due.is(when + ": PURSE", x.round(4), model.round(4));
            }
        }
    }

    // ---- 16: ways

    private static void p16withoutHouses() {
        PapersEarly x = new PapersEarly();
        x.bag(2, 999);
        due.is("ways(0): BEGIN", x.ways(0), 999);
        due.is("ways(1): BEGIN", x.ways(1), 999);
    }

    /** Houses of both SIDES from end to end; by PACE 1 and CROSS 9 each order ends otherwise. */
    private static PapersEarly bothSides() {
        PapersEarly x = new PapersEarly();
        x.bag(3, 1);
        x.bag(4, 9);
        x.house(1, 30, 501);
        x.house(1, 90, 990);
        x.house(1, 80, 0);
        x.house(1, 10, 1);
        x.house(1, 20, 310);
        x.house(1, 0, 991);
        x.house(1, 60, 171);
        return x;
    }

    private static int ends(PapersEarly x, int... houses) {
        order(x, houses);
        return x.round(0);
    }

    private static void p16upOneSideDownTheOther() {
        PapersEarly x = bothSides();
        due.is("SIDES", x.ways(0), ends(bothSides(), 2, 4, 1, 5, 0, 6, 3));
        due.is("SIDES: 0, 31, 68, 9, 0, 49, 33, 17, and the doors", x.ways(0), 31 + 68 + 9 + 49 + 33 + 17 + 7 + 29);
        list(x, "THE LIST stays", 0, 1, 2, 3, 4, 5, 6);
        order(x, 6, 5, 4, 3, 2, 1, 0);
        due.is("SIDES, whatever THE LIST", x.ways(0), 31 + 68 + 9 + 49 + 33 + 17 + 7 + 29);
        x.bag(0, 4);
        due.is("SIDES, with a bag", x.ways(0), ends(withBag(), 2, 4, 1, 5, 0, 6, 3));
        PapersEarly one = new PapersEarly();
        one.house(0, 0, 401);
        one.house(0, 0, 801);
        due.is("SIDE 1 alone: downward", one.ways(0), 20 + 1 + 1 + 10 + 1);
        PapersEarly other = at(80, 40);
        due.is("SIDE 0 alone: upward", other.ways(0), 10 + 1 + 10 + 1);
        PapersEarly end = new PapersEarly();
        end.house(0, 0, 991);
        end.house(0, 0, 990);
        due.is("SIDE 0 ahead of SIDE 1 at the last PLACE, too", end.ways(0), 25 + 1 + 1 + 1);
        end.set(0, 1, 0);
        end.set(1, 1, 0);
        due.is("and at the first", end.ways(0), 0 + 1 + 1 + 1);
    }

    private static PapersEarly withBag() {
        PapersEarly x = bothSides();
        x.bag(0, 4);
        return x;
    }

    private static void p16acrossUpward() {
        PapersEarly x = bothSides();
        due.is("ACROSS", x.ways(1), ends(bothSides(), 2, 3, 6, 4, 0, 1, 5));
        due.is("ACROSS: 99 places, 5 times across", x.ways(1), 99 + 9 * 5 + 7 + 29);
        due.is("ACROSS, with a bag", withBag().ways(1), ends(withBag(), 2, 3, 6, 4, 0, 1, 5));
        PapersEarly one = new PapersEarly();
        one.house(0, 0, 801);
        one.house(0, 0, 401);
        due.is("SIDE 1 alone: upward", one.ways(1), 10 + 1 + 1 + 10 + 1);
    }

    /** Three at one place: STEPS of NUMBER 9, 0, 5, papers 3, 2, 2 thick, by a bag of 4: the order tells. */
    private static PapersEarly likePlaces(int side) {
        PapersEarly x = new PapersEarly();
        x.bag(0, 4);
        x.house(3, 92, 400 + side);
        x.house(3, 1, 400 + side);
        x.house(3, 51, 400 + side);
        order(x, 1, 0, 2);
        return x;
    }

    private static void p16ofLikeOnesByNumbers() {
        for (int side = 0; side < 2; side++) {
            for (int what = 0; what < 2; what++) {
                // HOUSES 0, 1, 2: one goes back once; by NUMBER, or by THE LIST, it would be twice.
                int doors = 3 + 14 + 3 + 2 + 2;
                due.is("ways(" + what + ") of like ones, SIDE " + side, likePlaces(side).ways(what), 30 + side + doors);
                due.is("by THE LIST it is otherwise", likePlaces(side).round(0), 50 + side + doors);
            }
        }
        // ACROSS: of like ones by numbers, whatever the SIDE.
        PapersEarly x = new PapersEarly();
        x.bag(4, 9);
        x.house(0, 0, 401);
        x.house(0, 0, 400);
        x.house(0, 0, 401);
        due.is("ACROSS: over, over, over", x.ways(1), 10 + 27 + 3);
        due.is("SIDES: over once", x.ways(0), 10 + 9 + 3);
    }

    // ---- 17: begin

    private static int begin(String by, int... places) {
        PapersEarly x = at(places);
        x.bag(3, 1);
        Streets.rule(x, "by " + by + ";rings 0;tips 0;");
        return x.begin();
    }

    private static void p17firstAndLastBegin() {
        due.is("by 0 at 0", begin("0", 0), 0);
        due.is("by 0 at 1", begin("0", 1), NONE);
        due.is("by 5 at 5", begin("5", 5), 0);
        due.is("by 5 at 6", begin("5", 6), NONE);
        due.is("by 5 at 99", begin("5", 99), NONE);
        due.is("by 998 at 0", begin("998", 0), 998);
        due.is("by 999 at 0", begin("999", 0), 999);
        due.is("by 9999 at 0: 999", begin("9999", 0), 999);
        due.is("by 999 at 1", begin("999", 1), 998);
        due.is("by -7 at 0: 0", begin("-7", 0), 0);
    }

    private static void p17latestByWhichNobodyIsLate() {
        due.is("the one that waits least", begin("20+100*house", 7, 8, 9), 13);
        due.is("the one that waits least is the last", begin("100-40*house", 7, 8, 9), 20 - 11);
        due.is("the one that waits least is between", begin("100-80*(house=1)", 7, 8, 9), 20 - 9);
        PapersEarly x = bothSides();
        Streets.rule(x, "by 700+house;rings 0;tips 0;");
        int begin = x.begin();
        due.is("BEGIN stays", x.count(6), 0);
        x.bag(2, begin);
        due.is("nobody is LATE by it", x.round(2), 0);
        x.bag(2, begin + 1);
        due.holds("a minute later somebody is", x.round(2) > 0);
        due.is("begin() whatever BEGIN", x.begin(), begin);
        x.bag(2, 999);
        due.is("begin() by BEGIN 999", x.begin(), begin);
        due.is("BEGIN stays", x.count(6), 999);
    }

    private static void p17withoutHouses() {
        PapersEarly x = new PapersEarly();
        due.is("no HOUSES: nobody is LATE", x.begin(), 999);
        x.bag(2, 5);
        due.is("no HOUSES: nobody is LATE", x.begin(), 999);
    }

    // ---- 18: heap

    private static void heap(PapersEarly x, String when, int heap, int ends) {
        due.is(when + ": heap(0)", x.heap(0), heap);
        due.is(when + ": heap(1)", x.heap(1), ends);
    }

    private static void p18firstAndLastHeap() {
        heap(at(0), "one at 0", 0, 1);
        heap(at(99), "one at 99", 99, 1);
        heap(at(98), "one at 98", 98, 1);
        PapersEarly x = at(99, 0);
        x.bag(1, 40);
        x.bag(2, 999);
        heap(x, "99, 0", 99, 999 + 1 + 25 + 1);
        due.is("HEAP stays", x.count(5), 40);
        due.is("and the round", x.round(0), 999 + 15 + 1 + 25 + 1);
    }

    private static void p18ofLikeOnesTheLeast() {
        // Doors at 10 and 14, a paper each: from 11, 12, 13 a minute thrice, from 10 once and from 14 twice.
        PapersEarly x = new PapersEarly();
        x.bag(0, 4);
        x.house(0, 3, 100);
        x.house(0, 3, 140);
        heap(x, "10, 14", 10, 3);
        x.set(1, 1, 15);
        // From 10: 2; from 11: 3; from 15: 4.
        heap(x, "10, 15", 10, 4);
        PapersEarly y = new PapersEarly();
        y.bag(0, 4);
        y.house(0, 3, 500);
        y.house(0, 3, 500);
        y.house(0, 3, 540);
        y.house(0, 3, 540);
        // From 50 as from 54: the way to 54 and back is one way longer from 50, the way to 50 from 54.
        heap(y, "50, 50, 54, 54", 50, 4 + 3);
        y.swap(0, 2);
        y.swap(1, 3);
        heap(y, "54, 54, 50, 50", 54, 4 + 3);
        y.swap(0, 3);
        y.bag(3, 9);
        heap(y, "50, 54, 50, 54: from 50 three ways of a minute", 50, 4 + 3);
        PapersEarly z = new PapersEarly();
        z.bag(0, 4);
        for (int place : new int[] {1, 3, 1, 3}) {
            z.house(0, 3, 10 * place);
        }
        // From 1 three ways of a minute, from 3 four, from elsewhere seven at least.
        heap(z, "1, 3, 1, 3", 1, 4 + 3);
    }

    private static void p18withoutHouses() {
        PapersEarly x = new PapersEarly();
        x.bag(1, 40);
        x.bag(2, 7);
        heap(x, "no HOUSES: all alike", 0, 7);
    }

    // ---- 19: split

    private static void split(PapersEarly x, String when, int k, int ends) {
        due.is(when + ": split(0)", x.split(0), k);
        due.is(when + ": split(1)", x.split(1), ends);
    }

    private static void p19placesOfSplit() {
        split(at(0), "one: 0 as 1", 0, 1);
        split(at(0, 0), "two", 1, 1);
        split(at(0, 0, 0), "three: 1 as 2", 1, 2);
        split(Streets.doors(7), "seven: 3 as 4", 3, 4);
        // 25, 1; then 0, 1, ..
        split(at(99, 0, 0), "the first alone", 1, 26);
        // k 1: 1, and 0, 1, 25, 1; 2: 2, and 25, 1.
        split(at(0, 0, 99), "the last alone", 2, 26);
        PapersEarly x = at(0, 0, 99);
        x.swap(0, 2);
        split(x, "by THE LIST", 1, 26);
        list(x, "THE LIST stays", 2, 1, 0);
        x.bag(2, 999);
        split(x, "BEGIN 999", 1, 999 + 26);
    }

    private static void p19bothBeginAlike() {
        PapersEarly sides = new PapersEarly();
        sides.bag(4, 9);
        sides.house(0, 0, 1);
        sides.house(0, 0, 1);
        split(sides, "both on SIDE 0", 1, 10);
        PapersEarly heap = at(80, 80);
        heap.bag(1, 80);
        split(heap, "both at HEAP", 1, 1);
        PapersEarly bag = new PapersEarly();
        bag.bag(0, 4);
        bag.house(0, 3, 40);
        bag.house(0, 0, 40);
        bag.house(0, 0, 40);
        bag.house(0, 1, 40);
        // k 1: 2, and 1, 1, 1, 1; k 2: 1, 1, back 2, 1, and 1, 1, 1.
        split(bag, "both with a full bag", 1, 4);
    }

    private static void p19withoutHouses() {
        PapersEarly x = new PapersEarly();
        split(x, "no HOUSES", 0, 0);
        x.bag(2, 999);
        split(x, "no HOUSES, BEGIN 999", 0, 999);
    }

    // ---- 20, 21: drop, away

    private static void p20oneOfThem() {
        PapersEarly one = at(99);
        one.bag(2, 7);
        due.is("drop(0) of one: BEGIN", one.drop(0), 7);
        PapersEarly x = at(99, 0, 99, 0, 99, 0, 99);
        order(x, 6, 5, 4, 3, 2, 1, 0);
        // Ways of 25 each; without the first or the last one of them less, without another two less.
        int all = 7 * 25 + 7;
        due.is("all", x.round(0), all);
        for (int house = 0; house < 7; house++) {
            // THE LIST begins far off: without house 6 one is at 0 at once.
            int less = house == 6 ? 50 : house == 0 ? 25 : 50;
            due.is("drop(" + house + ")", x.drop(house), all - less - 1);
            due.is("away(" + (1 << house) + ", 0)", x.away(1 << house, 0), all - less - 1);
        }
        due.is("HOUSES stay", x.count(0), 7);
        list(x, "THE LIST stays", 6, 5, 4, 3, 2, 1, 0);
        due.is("and the round", x.round(0), all);
    }

    private static void p20bagsAreFilledOtherwise() {
        PapersEarly x = new PapersEarly();
        x.bag(0, 8);
        x.house(0, 0, 40);
        x.house(0, 3, 40);
        x.house(0, 3, 40);
        // 1, 4 and 4 are more than 8; without the thin one 4 and 4 are not.
        due.is("ENDS", x.round(0), 1 + 1 + 1 + 2 + 1);
        due.is("drop(0)", x.drop(0), 1 + 1 + 1);
        due.is("drop(1)", x.drop(1), 1 + 1 + 1);
        x.bag(0, 4);
        due.is("drop(0)", x.drop(0), 1 + 1 + 2 + 1);
        due.is("AT as before", x.at(2, 0), 7);
    }

    private static void p21noneAndAll() {
        PapersEarly x = bothSides();
        x.bag(2, 50);
        due.is("away(0, 0): none", x.away(0, 0), x.round(0));
        due.is("away(0, 1): none", x.away(0, 1), 0);
        due.is("away(127, 0): all, BEGIN", x.away(127, 0), 50);
        due.is("away(127, 1): all", x.away(127, 1), 7);
        due.is("away(128, 0)", x.away(128, 0), BAD);
        due.is("away(128, 1)", x.away(128, 1), BAD);
        due.is("away(-1, 0)", x.away(-1, 0), BAD);
        PapersEarly none = new PapersEarly();
        none.bag(2, 50);
        due.is("no HOUSES: away(0, 0)", none.away(0, 0), 50);
        due.is("no HOUSES: away(0, 1)", none.away(0, 1), 0);
        due.is("no HOUSES: away(1, 1)", none.away(1, 1), BAD);
    }

    private static void p21bits() {
        PapersEarly x = new PapersEarly();
        int[] thick = {1, 2, 4, 9};
        for (int sort = 0; sort < 4; sort++) {
            x.bag(6 + sort, thick[sort]);
            x.house(0, sort, 40 * sort);
        }
        x.bag(0, 60);
        order(x, 3, 1, 2, 0);
        for (int set = 0; set < 16; set++) {
            int together = 0;
            int left = 0;
            for (int h = 0; h < 4; h++) {
                boolean away = (set >> h & 1) == 1;
                together += away ? thick[h] : 0;
                left += away ? 0 : 1;
            }
            due.is("away(" + set + ", 1): THICK of their papers", x.away(set, 1), together);
            due.is("minutes of away(" + set + ", 0) at doors", (x.away(set, 0) - ways(set)), left);
        }
    }

    /** Minutes of the ways of 3, 1, 2, 0 at places 12, 4, 8, 0, some being left out. */
    private static int ways(int set) {
        int minutes = 0;
        int at = 0;
        for (int h : new int[] {3, 1, 2, 0}) {
            if ((set >> h & 1) == 0) {
                minutes += Math.abs(h - at);
                at = h;
            }
        }
        return minutes;
    }

    // ---- 22: judge

    private static void p22firstAndLastPlace() {
        PapersEarly x = at(0, 4, 8, 12, 16, 20, 24);
        // AT 0, 2, 4, .. 12.
        for (int wrong = 0; wrong <= 7; wrong++) {
            Streets.row(x, 1, 1, 0, 2, 4, 6, 8, 10, 12);
            for (int i = wrong; i < 7; i++) {
                x.cell(1, i, 2 * i + 1);
            }
            due.is("the first place that is otherwise", x.judge(1), wrong == 7 ? NONE : wrong);
        }
        PapersEarly y = at(0, 4, 8);
        order(y, 2, 0, 1);
        // THE LIST 2, 0, 1: AT 2, 5, 7.
        Streets.row(y, 0, 2, 2, 5, 7);
        due.is("in THE LIST's order", y.judge(0), NONE);
        y.cell(0, 2, 6);
        due.is("the last one a minute less", y.judge(0), 2);
        y.cell(0, 1, 6);
        due.is("the one ahead a minute more", y.judge(0), 1);
        y.cell(0, 0, -2);
        due.is("the first below 0", y.judge(0), 0);
    }

    private static void p22sheetOfEachSort() {
        PapersEarly x = at(0);
        for (int sort = 0; sort < 3; sort++) {
            x.bag(2, 127);
            Streets.row(x, sort, sort, 127);
            due.is("127, sort " + sort, x.judge(sort), NONE);
            x.cell(sort, 0, 126);
            due.is("126, sort " + sort, x.judge(sort), 0);
            x.bag(2, 999);
            x.cell(sort, 0, 999);
            due.is("999, sort " + sort, x.judge(sort), sort == 0 ? 0 : NONE);
        }
    }

    private static void p22withoutHouses() {
        PapersEarly x = new PapersEarly();
        for (int sort = 0; sort < 3; sort++) {
            x.sheet(sort, sort, 0);
            due.is("no HOUSES, sort " + sort, x.judge(sort), NONE);
            x.sheet(sort, sort, 1);
            due.is("no HOUSES, a number", x.judge(sort), BAD);
        }
    }

    // ---- 23, 24: thrownBy, chance

    private static void p23oddsOfNothingAndTen() {
        PapersEarly x = Streets.doors(7);
        for (int seed : new int[] {0, 1, -1, Integer.MAX_VALUE, Integer.MIN_VALUE, 1234567}) {
            due.is("odds 0: none lies right", x.thrownBy(seed, 0), 0);
            due.is("odds 10: all lie right", x.thrownBy(seed, 10), 7);
            for (int odds = 1; odds <= 10; odds++) {
                due.holds("more odds, as many at least", x.thrownBy(seed, odds) >= x.thrownBy(seed, odds - 1));
            }
        }
    }

    private static void p23justBelowOdds() {
        PapersEarly one = Streets.doors(1);
        // z is 12345, 1103527590, -2087939... : by 1024, as a number without a sign, and of that the last digit.
        int[] seeds = {0, 1, 2, -1, -2, 7, 99999, Integer.MAX_VALUE, Integer.MIN_VALUE};
        for (int seed : seeds) {
            long z = (seed * 1103515245L + 12345L) & 0xFFFFFFFFL;
            int digit = (int) (z / 1024 % 10);
            due.is("of " + seed + " not below " + digit, one.thrownBy(seed, digit), 0);
            due.is("of " + seed + " below " + (digit + 1), one.thrownBy(seed, digit + 1), 1);
        }
        due.is("0 gives 12345, 12, 2", one.thrownBy(0, 2), 0);
        due.is("0 gives 12345, 12, 2", one.thrownBy(0, 3), 1);
    }

    private static void p23withoutHouses() {
        PapersEarly x = new PapersEarly();
        due.is("no HOUSES: thrownBy(5, 10)", x.thrownBy(5, 10), 0);
        due.is("no HOUSES: thrownBy(5, 0)", x.thrownBy(5, 0), 0);
    }

    private static void chance(PapersEarly x, int seed, int n, int odds, long above, long below) {
        String call = "chance(" + seed + ", " + n + ", " + odds + ", ";
        due.is(call + "0)", x.chance(seed, n, odds, 0), above);
        due.is(call + "1)", x.chance(seed, n, odds, 1), below);
    }

    private static void p24firstAndLastMany() {
        PapersEarly x = Streets.doors(1);
        // One HOUSE, seed 0: 2 as above.
        chance(x, 0, 1, 2, 0, 1);
        chance(x, 0, 1, 3, 1, 1);
        chance(x, 0, 20, 10, 1, 1);
        chance(x, 0, 20, 0, 0, 1);
        chance(x, 0, 1, 10, 1, 1);
        chance(x, 0, 1, 0, 0, 1);
    }

    /** How many of n seeds, each 1 more, throw all papers right: told one by one. */
    private static int right(PapersEarly x, int seed, int n, int odds) {
        int all = 0;
        for (int i = 0; i < n; i++) {
            all += x.thrownBy(seed + i, odds) == x.count(0) ? 1 : 0;
        }
        return all;
    }

    private static void p24lowestTerms() {
        for (int n = 1; n <= 20; n++) {
            PapersEarly x = Streets.doors(2);
            for (int odds = 5; odds <= 9; odds += 2) {
                int all = right(x, 77, n, odds);
                int by = 1;
                for (int d = 2; d <= n; d++) {
                    by = all % d == 0 && n % d == 0 ? d : by;
                }
                chance(x, 77, n, odds, all / by, n / by);
            }
        }
    }

    private static void p24withoutHouses() {
        PapersEarly x = new PapersEarly();
        chance(x, 1, 1, 0, 1, 1);
        chance(x, 1, 20, 0, 1, 1);
        chance(x, 1, 7, 10, 1, 1);
    }
}
