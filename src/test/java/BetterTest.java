/** Promises 14 to 24: best, arrange, ways, begin, heap, split, drop, away, judge, thrownBy, chance. */
public final class BetterTest {
    private static final int BAD = PapersEarly.BAD, NONE = PapersEarly.NONE;
    private static final Due due = new Due("BetterTest");

    public static void main(String[] args) {
        bestBySoonest();
        bestByPurse();
        bestIsAskedAnew();
        arrangeChanges();
        waysGo();
        beginIsLatest();
        heapLies();
        splitInTwo();
        dropAndAway();
        judged();
        thrown();
        chanceInSeeds();
        withoutHouses();
        due.end();
    }

    /** Doors at places 20, 4, 12, all on side 0, with papers that the bag holds together. */
    private static PapersEarly row() {
        PapersEarly x = new PapersEarly();
        x.house(0, 0, 200);
        x.house(0, 0, 40);
        x.house(0, 0, 120);
        return x;
    }

    private static void order(PapersEarly x, String when, int sort, int... houses) {
        for (int i = 0; i < houses.length; i++) {
            due.is(when + ": best(" + sort + ", " + i + ")", x.best(sort, i), houses[i]);
        }
    }

    private static void bestBySoonest() {
        PapersEarly x = row();
        // 1, 1, 2, 1, 2, 1.
        order(x, "soonest", 0, 1, 2, 0);
        due.is("best(0, NONE)", x.best(0, NONE), 8);
        due.is("the list stays", x.told(0, 5), 0);
        due.is("its ENDS: 5, 1, 4, 1, 2, 1", x.round(0), 14);
        x.bag(1, 99);
        order(x, "from the other end", 0, 0, 2, 1);
        PapersEarly like = new PapersEarly();
        for (int h = 0; h < 7; h++) {
            like.house(0, 0, 40);
        }
        like.swap(0, 6);
        order(like, "of like ones the first by houses, not by the list", 0, 0, 1, 2, 3, 4, 5, 6);
    }

    private static void bestByPurse() {
        PapersEarly x = row();
        due.is("nobody is late: 60", x.best(1, NONE), 60);
        order(x, "of like ones the first", 1, 0, 1, 2);
        Streets.rule(x, "by 6 - house ; rings 3 < late ; tips 10 * house + 5 ;");
        // By 6, 5, 4: houses 2 and 1 give 25 and 15 if in time; 1, 2, 0: at 1, 4, 7: 15, 25, 5 less 1.
        due.is("PURSE", x.best(1, NONE), 44);
        order(x, "purse", 1, 1, 2, 0);
        x.bag(2, 3);
        // Begun at 3: 1, 2, 0: at 4, 7, 10: 15, 22, 4 late rings up: 37; 2, 1, 0: at 6, 9, ..: 23 and 4 late: 23;
        // 1, 0, 2: at 4, 9 (5 less 3), late: 17.
        due.is("PURSE, begun later", x.best(1, NONE), 37);
        order(x, "purse, begun later", 1, 1, 2, 0);
        x.bag(2, 0);
        Streets.rule(x, "by 0 ; rings 0 ; tips late * 3 ;");
        // Who waits gives more, twice what it waits: 0, 1, 2: at 5, 10, 13; 0, 2, 1: at 5, 8, 11;
        // 1, 0, 2: 1, 6, 9; 1, 2, 0: 1, 4, 7; 2, 0, 1: 3, 6, 11; 2, 1, 0: 3, 6, 11.
        due.is("PURSE", x.best(1, NONE), 56);
        order(x, "purse of who waits", 1, 0, 1, 2);
        purseOfTheLatest();
    }

    private static void purseOfTheLatest() {
        PapersEarly x = new PapersEarly();
        x.house(3, 90, 0);
        x.bag(2, 107);
        Streets.rule(x, "by 999 * house ; rings 0 ; tips 99 ;");
        due.is("STEPS, late by 107: 99 less 107, and 9", x.best(1, NONE), 1);
        x.bag(2, 108);
        due.is("late by 108", x.best(1, NONE), 0);
        x.house(3, 90, 0);
        due.is("and one in time", x.best(1, NONE), 108);
        x.bag(2, 999);
        x.set(0, 1, 99);
        x.bag(3, 1);
        due.is("first the one that is in time", x.best(1, 0), 1);
        due.is("PURSE", x.best(1, NONE), 108);
    }

    /** What best() answers follows every call by which it can be another one. */
    private static void bestIsAskedAnew() {
        PapersEarly x = row();
        x.bag(2, 30);
        int soon = x.best(0, NONE);
        int rich = x.best(1, NONE);
        due.is("soon", soon, 38);
        // 1, 2, 0: at 31, 34, 37, and 0 rings up.
        due.is("rich", rich, 40);
        x.image();
        x.bag(2, 40);
        due.is("after bag()", x.best(0, NONE), soon + 10);
        // 2 first, at 43: 17 less 3; all others ring up.
        due.is("after bag()", x.best(1, NONE), 14);
        x.back();
        due.is("after back()", x.best(0, NONE), soon);
        due.is("after back()", x.best(1, NONE), rich);
        x.set(0, 1, 99);
        due.is("after set(): 1, 1, 2, 1, 22, 1", x.best(0, NONE), 58);
        x.back();
        due.is("after back()", x.best(0, NONE), soon);
        x.house(0, 0, 200);
        due.is("after house()", x.best(0, NONE), soon + 1);
        x.back();
        due.is("after back()", x.best(0, NONE), soon);
        Streets.row(x, 0, 1, 0, 0, 200);
        x.houses(0, 1, 0, 1);
        due.is("after houses()", x.best(0, NONE), soon + 1);
        x.back();
        Streets.rule(x, "by 999 ; rings 0 ; tips 7 ;");
        due.is("after force()", x.best(1, NONE), 21);
        x.back();
        due.is("after back() to the rule", x.best(1, NONE), rich);
    }

    private static void arrangeChanges() {
        PapersEarly x = row();
        due.is("arrange(-1)", x.arrange(-1), BAD);
        due.is("arrange(2)", x.arrange(2), BAD);
        due.is("arrange(0)", x.arrange(0), 8);
        list(x, 1, 2, 0);
        due.is("arrange(1): ENDS then, not PURSE", x.arrange(1), 5 + 1 + 4 + 1 + 2 + 1);
        list(x, 0, 1, 2);
    }

    private static void list(PapersEarly x, int... houses) {
        for (int i = 0; i < houses.length; i++) {
            due.is("told(" + houses[i] + ", 5)", x.told(houses[i], 5), i);
        }
    }

    private static void waysGo() {
        PapersEarly x = new PapersEarly();
        x.bag(0, 60);
        x.house(1, 0, 81);
        x.house(1, 0, 40);
        x.house(1, 0, 161);
        x.house(1, 0, 120);
        // SIDES 1, 3, 2, 0: 1, 1, 2, 1, 1 and 1 across, 1, 2, 1. ACROSS 1, 0, 3, 2: 1, 1, 2, 1, 2, 1, 2, 1.
        due.is("ways(0)", x.ways(0), 11);
        due.is("ways(1)", x.ways(1), 11);
        x.bag(4, 9);
        due.is("ways(0), crossing once", x.ways(0), 1 + 1 + 2 + 1 + 1 + 9 + 1 + 2 + 1);
        due.is("ways(1), crossing thrice", x.ways(1), 1 + 1 + 10 + 1 + 10 + 1 + 10 + 1);
        due.is("the list stays", x.told(0, 5), 0);
        due.is("ways(-1)", x.ways(-1), BAD);
        due.is("ways(2)", x.ways(2), BAD);
        PapersEarly end = new PapersEarly();
        end.house(0, 0, 991);
        end.house(0, 0, 990);
        due.is("side 0 is first at the end of the street too", end.ways(0), 25 + 1 + 1 + 1);
        waysOfLikePlaces();
    }

    /** Of houses at one place the order is seen by the bag: 2 and 3 are more than 4, 2 and 2 are not. */
    private static void waysOfLikePlaces() {
        PapersEarly x = new PapersEarly();
        x.bag(0, 4);
        x.house(0, 1, 40);
        x.house(0, 2, 400);
        x.house(0, 1, 400);
        x.swap(1, 2);
        // By numbers 2, 3, 2 thick: 1, 1; back 1, 10, 1; back 10, 10, 1.
        due.is("ways(0) of like places", x.ways(0), 35);
        due.is("ways(1) of like places", x.ways(1), 35);
        x.set(1, 3, 1);
        x.set(2, 3, 2);
        // 2, 2, 3: 1, 1; 9, 1; back 10, 10, 1.
        due.is("ways(0) of like places", x.ways(0), 33);
        due.is("ways(1) of like places", x.ways(1), 33);
        for (int h = 0; h < 3; h++) {
            x.set(h, 2, 1);
            x.set(h, 1, h == 0 ? 40 : 4);
        }
        // Down side 1, 2, 2, 3: 10 and 1 across, 1; 9, 1; back 1, 1, 1.
        due.is("ways(0) on side 1", x.ways(0), 25);
        x.set(1, 3, 2);
        x.set(2, 3, 1);
        // 2, 3, 2: 12; back 10, 1, 1; back 1, 1, 1.
        due.is("ways(0) on side 1", x.ways(0), 27);
        // Upward 3, 2, 2: 1 and 1 across, 1; back 1, 1, 1; 9, 1.
        due.is("ways(1) on side 1", x.ways(1), 16);
    }

    private static void beginIsLatest() {
        PapersEarly x = row();
        // AT 5, 10, 13; by 30, 35, 40: 25, 25, 27.
        due.is("begin()", x.begin(), 25);
        due.is("BEGIN stays", x.count(6), 0);
        x.bag(2, 25);
        due.is("nobody is late then", x.round(2), 0);
        due.is("begin() whatever BEGIN is", x.begin(), 25);
        x.bag(2, 26);
        due.is("later somebody is", x.round(2), 2);
        Streets.rule(x, "by 9 + house * 100 ; rings 0 ; tips 0 ;");
        due.is("begin()", x.begin(), 4);
        Streets.rule(x, "by 5 + house * 100 ; rings 0 ; tips 0 ;");
        due.is("begin() at 0", x.begin(), 0);
        Streets.rule(x, "by 4 + house * 100 ; rings 0 ; tips 0 ;");
        due.is("begin(): by none", x.begin(), NONE);
        Streets.rule(x, "by 9999 ; rings 0 ; tips 0 ;");
        due.is("begin(): at 13 by 999", x.begin(), 986);
        PapersEarly near = new PapersEarly();
        near.house(0, 0, 0);
        Streets.rule(near, "by 999 ; rings 0 ; tips 0 ;");
        due.is("begin() at most", near.begin(), 999);
    }

    private static void heapLies() {
        PapersEarly x = row();
        // Then 20, 4, 12: 0 minutes to the first one.
        due.is("heap(0): first at 20", x.heap(0), 20);
        due.is("heap(1)", x.heap(1), 0 + 1 + 4 + 1 + 2 + 1);
        due.is("HEAP stays", x.count(5), 0);
        x.bag(0, 4);
        x.bag(6, 4);
        // One goes back to it twice: to 20, from 20 and to 4, from 4 and to 12.
        due.is("heap(1), back twice", x.heap(1), 2 + 1 + 2 + 2 + 1 + 2 + 0 + 1);
        due.is("heap(0), back twice", x.heap(0), 12);
        x.bag(3, 9);
        x.set(0, 1, 12);
        x.set(1, 1, 10);
        x.set(2, 1, 14);
        // From 10 as from 12: two of the doors are 1 minute off, one of them both ways.
        due.is("of like ones the least", x.heap(0), 10);
        due.is("ENDS then", x.heap(1), 6);
        due.is("heap(-1)", x.heap(-1), BAD);
        due.is("heap(2)", x.heap(2), BAD);
        PapersEarly far = new PapersEarly();
        far.house(0, 0, 990);
        due.is("HEAP 99", far.heap(0), 99);
        due.is("ENDS then", far.heap(1), 1);
    }

    private static void splitInTwo() {
        PapersEarly x = row();
        // k 0: 14; 1: 6 and 1, 1, 2, 1; 2: 11; 3: 14.
        due.is("split(0)", x.split(0), 1);
        due.is("split(1)", x.split(1), 6);
        x.bag(2, 100);
        due.is("split(1) from BEGIN on", x.split(1), 106);
        due.is("split(-1)", x.split(-1), BAD);
        due.is("split(2)", x.split(2), BAD);
        PapersEarly one = new PapersEarly();
        one.house(0, 0, 0);
        due.is("of like ones the least", one.split(0), 0);
        due.is("ENDS", one.split(1), 1);
        PapersEarly across = new PapersEarly();
        across.house(0, 0, 1);
        across.house(0, 0, 1);
        // The other one begins on side 0 as well.
        due.is("split(0)", across.split(0), 1);
        due.is("split(1)", across.split(1), 2);
        PapersEarly full = new PapersEarly();
        full.bag(0, 4);
        full.house(0, 3, 40);
        full.house(0, 3, 40);
        full.house(0, 3, 40);
        // The second one takes papers anew: 2; 2, 2 and back 1, 1, 1: 5.
        due.is("split(0), bags", full.split(0), 1);
        due.is("split(1), bags", full.split(1), 5);
    }

    private static void dropAndAway() {
        PapersEarly x = row();
        due.is("drop(0): 1, 1, 2, 1", x.drop(0), 5);
        due.is("drop(1): 5, 1, 2, 1", x.drop(1), 9);
        due.is("drop(2): 5, 1, 4, 1", x.drop(2), 11);
        due.is("houses stay", x.count(0), 3);
        due.is("drop(-1)", x.drop(-1), BAD);
        due.is("drop(3)", x.drop(3), BAD);
        due.is("drop(MIN)", x.drop(Integer.MIN_VALUE), BAD);
        x.swap(0, 1);
        due.is("drop() is by houses, not by places", x.drop(0), 5);
        x.set(1, 3, 2);
        x.set(2, 3, 3);
        // THE LIST 1, 0, 2: 1, 1, 4, 1, 2, 1; without 0: 1, 1, 2, 1; without 1: 5, 1, 2, 1; and so on.
        int[] ends = {10, 5, 9, 4, 7, 2, 6, 0};
        int[] thick = {0, 1, 3, 4, 4, 5, 7, 8};
        for (int set = 0; set < 8; set++) {
            due.is("away(" + set + ", 0)", x.away(set, 0), ends[set]);
            due.is("away(" + set + ", 1)", x.away(set, 1), thick[set]);
        }
    }

    private static void judged() {
        PapersEarly x = row();
        x.swap(0, 1);
        // THE LIST 1, 0, 2: at 1, 6, 9.
        Streets.row(x, 0, 0, 1, 6, 9);
        due.is("judge(0)", x.judge(0), NONE);
        for (int i = 0; i < 3; i++) {
            Streets.row(x, 1, 2, 1, 6, 9);
            x.cell(1, i, 99);
            due.is("judge(1) with another at " + i, x.judge(1), i);
        }
        Streets.row(x, 1, 1, 0, 6, 0);
        due.is("the first of two", x.judge(1), 0);
        x.bag(2, 250);
        Streets.row(x, 0, 0, 251, 256, 259);
        due.is("bytes don't hold 251", x.judge(0), 0);
        Streets.row(x, 0, 1, 251, 256, 259);
        due.is("shorts do", x.judge(0), NONE);
        due.is("judge(-1)", x.judge(-1), BAD);
        due.is("judge(4)", x.judge(4), BAD);
        due.is("judge(3): missing", x.judge(3), -11);
        x.sheet(0, 2, 2);
        due.is("judge(0): too short", x.judge(0), BAD);
        x.sheet(0, 2, 4);
        due.is("judge(0): too long", x.judge(0), BAD);
    }

    private static int right(int seed, int odds, int houses) {
        long z = seed;
        int right = 0;
        for (int i = 0; i < houses; i++) {
            z = z * 1103515245L + 12345L & 0xFFFFFFFFL;
            right += (z >> 10) % 10 < odds ? 1 : 0;
        }
        return right;
    }

    private static void thrown() {
        PapersEarly x = row();
        // Of 0: 12345, by 1024 12: 2, and so on.
        due.is("thrownBy(0, 10)", x.thrownBy(0, 10), 3);
        due.is("thrownBy(0, 0)", x.thrownBy(0, 0), 0);
        int[] seeds = {0, 1, -1, 12345, -99999, Integer.MAX_VALUE, Integer.MIN_VALUE};
        for (int seed : seeds) {
            for (int odds = 0; odds <= 10; odds++) {
                due.is("thrownBy(" + seed + ", " + odds + ")", x.thrownBy(seed, odds), right(seed, odds, 3));
            }
        }
        PapersEarly one = new PapersEarly();
        one.house(0, 0, 0);
        due.is("12 % 10 is not below 2", one.thrownBy(0, 2), 0);
        due.is("12 % 10 is below 3", one.thrownBy(0, 3), 1);
        due.is("thrownBy(0, -1)", x.thrownBy(0, -1), BAD);
        due.is("thrownBy(0, 11)", x.thrownBy(0, 11), BAD);
    }

    private static void chanceInSeeds() {
        PapersEarly x = row();
        due.is("all lie right", x.chance(5, 20, 10, 0), 1);
        due.is("all lie right", x.chance(5, 20, 10, 1), 1);
        due.is("none lie right", x.chance(5, 20, 0, 0), 0);
        due.is("none lie right, in lowest terms", x.chance(5, 20, 0, 1), 1);
        int[] seeds = {0, 7, -3, Integer.MAX_VALUE - 4};
        for (int seed : seeds) {
            for (int n = 1; n <= 20; n++) {
                long all = 0;
                for (int i = 0; i < n; i++) {
                    all += right(seed + i, 8, 3) == 3 ? 1 : 0;
                }
                long above = x.chance(seed, n, 8, 0);
                long below = x.chance(seed, n, 8, 1);
                due.is("chance(" + seed + ", " + n + ", 8, ..) as a part", above * n, all * below);
                due.is("in lowest terms", gcd(above, below), 1);
                due.holds("below the line it is above 0", below > 0);
            }
        }
    }

    private static long gcd(long a, long b) {
        return b == 0 ? a : gcd(b, a % b);
    }

    private static void withoutHouses() {
        PapersEarly x = new PapersEarly();
        x.bag(2, 40);
        due.is("best(0, NONE)", x.best(0, NONE), 40);
        due.is("best(1, NONE)", x.best(1, NONE), 0);
        due.is("best(0, 0)", x.best(0, 0), BAD);
        due.is("arrange(1)", x.arrange(1), 40);
        due.is("ways(1)", x.ways(1), 40);
        due.is("begin()", x.begin(), 999);
        due.is("heap(0)", x.heap(0), 0);
        due.is("heap(1)", x.heap(1), 40);
        due.is("split(1)", x.split(1), 40);
        due.is("drop(0)", x.drop(0), BAD);
        due.is("away(0, 0)", x.away(0, 0), 40);
        due.is("away(1, 0)", x.away(1, 0), BAD);
        x.sheet(0, 0, 0);
        due.is("judge(0)", x.judge(0), NONE);
        due.is("thrownBy(1, 5)", x.thrownBy(1, 5), 0);
        due.is("chance(1, 4, 0, 1)", x.chance(1, 4, 0, 1), 1);
    }
}
