import java.util.function.Supplier;

/**
 * Each refusal of promises 2 to 32: the first number that is not let in on each side, the order in which
 * the promise names its refusals, and that a refused call changes nothing that a later call shows.
 */
public final class RefusalsTest {
    private static final int BAD = PapersEarly.BAD, STATE = PapersEarly.STATE, FULL = PapersEarly.FULL;
    private static final int NOTHING = -11, OUTSIDE = -12, UNLIKE = -13, BELOW = -14;
    private static final int LEAST = Integer.MIN_VALUE, MOST = Integer.MAX_VALUE;
    private static final Due due = new Due("RefusalsTest");

    public static void main(String[] args) {
        p02house();
        p03set();
        p04bag();
        p05told();
        p06swap();
        p07feed();
        p08text();
        p09force();
        p10at();
        p11round();
        p12shifted();
        p13where();
        p14best();
        p15arrange();
        p16ways();
        p18heap();
        p19split();
        p20drop();
        p21away();
        p22judge();
        p23thrownBy();
        p24chance();
        p26back();
        p27count();
        p28sheet();
        p29cell();
        p30copy();
        p31houses();
        p32taken();
        due.end();
    }

    private static void refused(Supplier<PapersEarly> made, long want, String call, int[]... all) {
        for (int[] args : all) {
            due.refuses(made, want, call, args);
        }
    }

    private static int[] with(int... args) {
        return args;
    }

    /** Each of these numbers in the place of one argument; the others stay. */
    private static int[][] each(int[] args, int place, int... numbers) {
        int[][] all = new int[numbers.length][];
        for (int i = 0; i < numbers.length; i++) {
            all[i] = args.clone();
            all[i][place] = numbers[i];
        }
        return all;
    }

    private static void p02house() {
        int[] good = {0, 0, 0};
        int[][][] bad = {
            each(good, 0, -1, 6, LEAST, MOST),
            // NUMBER below 0 and above 9; SORT below 0 and above 3.
            each(good, 1, -1, -10, -7, 4, 9, 94, 99, 100, 103, LEAST, MOST),
            // PLACE below 0 and above 99; SIDE below 0 and above 1.
            each(good, 2, -1, -10, -9, 2, 9, 992, 999, 1000, 1001, LEAST, MOST)};
        for (int[][] of : bad) {
            refused(Streets::bare, BAD, "house", of);
            refused(Streets::lived, BAD, "house", of);
            // BAD is named ahead of FULL.
            refused(Streets::crowded, BAD, "house", of);
        }
        refused(Streets::crowded, FULL, "house", good, with(5, 93, 991));
    }

    private static void p03set() {
        refused(Streets::bare, BAD, "set", with(0, 0, 0));
        refused(Streets::crowded, BAD, "set", with(7, 0, 0));
        int[] first = {0, 0, 0};
        refused(Streets::lived, BAD, "set", each(first, 0, -1, 3, LEAST, MOST));
        refused(Streets::lived, BAD, "set", each(first, 1, -1, 4, LEAST, MOST));
        int[] above = {10, 100, 2, 4};
        for (int what = 0; what < 4; what++) {
            refused(Streets::lived, BAD, "set", each(with(1, what, 0), 2, -1, above[what], LEAST, MOST));
        }
    }

    private static void p04bag() {
        int[] below = {3, -1, -1, 0, -1, -1, 0, 0, 0, 0};
        int[] above = {61, 100, 1000, 10, 10, 10, 10, 10, 10, 10};
        for (int what = 0; what < 10; what++) {
            refused(Streets::lived, BAD, "bag", each(with(what, 0), 1, below[what], above[what], LEAST, MOST));
        }
        refused(Streets::lived, BAD, "bag", each(with(0, 5), 0, -1, 10, LEAST, MOST));
    }

    private static void p05told() {
        refused(Streets::bare, BAD, "told", with(0, 0));
        refused(Streets::crowded, BAD, "told", with(7, 0));
        refused(Streets::lived, BAD, "told", each(with(0, 0), 0, -1, 3, LEAST, MOST));
        refused(Streets::lived, BAD, "told", each(with(0, 0), 1, -1, 8, LEAST, MOST));
    }

    private static void p06swap() {
        refused(Streets::bare, BAD, "swap", with(0, 0));
        refused(Streets::crowded, BAD, "swap", with(0, 7), with(7, 0), with(7, 7));
        refused(Streets::lived, BAD, "swap", each(with(0, 1), 0, -1, 3, LEAST, MOST));
        refused(Streets::lived, BAD, "swap", each(with(1, 0), 1, -1, 3, LEAST, MOST));
        refused(Streets::lived, BAD, "swap", with(-1, -1), with(3, 3));
    }

    private static void p07feed() {
        int[][] bad = each(with(32), 0, -1, 256, LEAST, MOST);
        refused(Streets::bare, BAD, "feed", bad);
        refused(Streets::lived, BAD, "feed", bad);
        refused(Streets::fedFull, FULL, "feed", with(0), with(32), with(255));
        // BAD is named ahead of FULL.
        refused(Streets::fedFull, BAD, "feed", bad);
    }

    private static void p08text() {
        // The tape has a byte that would be a FAULT: FULL is ahead of all, and the tape stays.
        refused(Streets::readFull, FULL, "text", with());
        refused(RefusalsTest::readFullAndEmpty, FULL, "text", with());
        refused(RefusalsTest::readFullAndGood, FULL, "text", with());
    }

    private static PapersEarly readFullAndEmpty() {
        PapersEarly x = Streets.doors(2);
        for (int i = 1; i <= 5; i++) {
            Streets.feed(x, "by " + i + ";rings 0;tips 0;");
            x.text();
        }
        return x;
    }

    private static PapersEarly readFullAndGood() {
        PapersEarly x = readFullAndEmpty();
        Streets.feed(x, "by 6;rings 0;tips 0;");
        return x;
    }

    private static void p09force() {
        refused(Streets::bare, BAD, "force", each(with(0), 0, -1, 1, LEAST, MOST));
        refused(Streets::lived, BAD, "force", each(with(0), 0, -1, 2, LEAST, MOST));
        refused(Streets::readFull, BAD, "force", with(-1), with(6));
    }

    private static void p10at() {
        refused(Streets::bare, BAD, "at", with(0, 0));
        refused(Streets::crowded, BAD, "at", with(7, 0));
        refused(Streets::lived, BAD, "at", each(with(0, 0), 0, -1, 3, LEAST, MOST));
        refused(Streets::lived, BAD, "at", each(with(0, 0), 1, -1, 3, LEAST, MOST));
    }

    private static void p11round() {
        refused(Streets::bare, BAD, "round", with(-1), with(5));
        refused(Streets::lived, BAD, "round", each(with(0), 0, -1, 5, LEAST, MOST));
    }

    private static void p12shifted() {
        refused(Streets::bare, BAD, "shifted", with(-1, 0), with(1, 0));
        refused(Streets::crowded, BAD, "shifted", with(8, 0));
        refused(Streets::lived, BAD, "shifted", each(with(0, 0), 0, -1, 4, LEAST, MOST));
        refused(Streets::lived, BAD, "shifted", each(with(0, 0), 1, -1, 3, LEAST, MOST));
    }

    private static void p13where() {
        int[] noSheet = {-1, 4, LEAST, MOST};
        int[] noWhat = {-1, 2, LEAST, MOST};
        refused(Streets::lived, BAD, "where", each(with(0, 0), 0, noSheet));
        refused(Streets::lived, BAD, "where", each(with(0, 0), 1, noWhat));
        // Sheet 3 is missing: SHEET and what are named ahead of that.
        refused(Streets::lived, BAD, "where", each(with(3, 0), 1, noWhat));
        refused(Streets::lived, NOTHING, "where", with(3, 0), with(3, 1));
        refused(Streets::bare, NOTHING, "where", with(0, 0), with(1, 0), with(2, 0), with(3, 1));
        // Missing is named ahead of a size that isn't how many HOUSES there are, here none and seven.
        refused(Streets::crowded, NOTHING, "where", with(3, 0));
        refused(Streets::crowded, BAD, "where", with(0, 0), with(1, 1), with(2, 0));
        refused(() -> withSheets(2), BAD, "where", with(0, 0), with(1, 0), with(2, 1));
        refused(() -> withSheets(4), BAD, "where", with(0, 0), with(1, 0), with(2, 1));
    }

    /** Three houses, and sheets of each sort that have so many items. */
    private static PapersEarly withSheets(int size) {
        PapersEarly x = Streets.doors(3);
        for (int sort = 0; sort < 3; sort++) {
            x.sheet(sort, sort, size);
        }
        return x;
    }

    private static void p14best() {
        refused(Streets::bare, BAD, "best", with(0, 0), with(1, 0), with(0, -2), with(2, -1), with(-1, -1));
        refused(Streets::crowded, BAD, "best", with(0, 7), with(1, 7));
        for (int sort = 0; sort < 2; sort++) {
            refused(Streets::lived, BAD, "best", each(with(sort, 0), 1, -2, 3, LEAST, MOST));
        }
        refused(Streets::lived, BAD, "best", each(with(0, 0), 0, -1, 2, LEAST, MOST));
        refused(Streets::lived, BAD, "best", each(with(0, -1), 0, -1, 2, LEAST, MOST));
    }

    private static void p15arrange() {
        refused(Streets::lived, BAD, "arrange", each(with(0), 0, -1, 2, LEAST, MOST));
        refused(Streets::bare, BAD, "arrange", with(-1), with(2));
    }

    private static void p16ways() {
        refused(Streets::lived, BAD, "ways", each(with(0), 0, -1, 2, LEAST, MOST));
        refused(Streets::bare, BAD, "ways", with(-1), with(2));
    }

    private static void p18heap() {
        refused(Streets::lived, BAD, "heap", each(with(0), 0, -1, 2, LEAST, MOST));
        refused(Streets::bare, BAD, "heap", with(-1), with(2));
    }

    private static void p19split() {
        refused(Streets::lived, BAD, "split", each(with(0), 0, -1, 2, LEAST, MOST));
        refused(Streets::bare, BAD, "split", with(-1), with(2));
    }

    private static void p20drop() {
        refused(Streets::bare, BAD, "drop", with(0), with(-1));
        refused(Streets::lived, BAD, "drop", each(with(0), 0, -1, 3, 31, 32, LEAST, MOST));
        refused(Streets::crowded, BAD, "drop", with(7));
    }

    private static void p21away() {
        refused(Streets::bare, BAD, "away", with(1, 0), with(-1, 0), with(0, 2));
        refused(Streets::lived, BAD, "away", each(with(0, 0), 0, -1, 8, 9, 16, 64, LEAST, MOST));
        refused(Streets::lived, BAD, "away", each(with(0, 1), 0, -1, 8, LEAST, MOST));
        refused(Streets::lived, BAD, "away", each(with(1, 0), 1, -1, 2, LEAST, MOST));
        refused(Streets::crowded, BAD, "away", with(128, 0), with(128, 1), with(-128, 0));
    }

    private static void p22judge() {
        refused(Streets::lived, BAD, "judge", each(with(0), 0, -1, 4, LEAST, MOST));
        refused(Streets::bare, BAD, "judge", with(-1), with(4));
        refused(Streets::bare, NOTHING, "judge", with(0), with(1), with(2), with(3));
        refused(Streets::lived, NOTHING, "judge", with(3));
        // Missing is named ahead of a size that isn't how many HOUSES there are.
        refused(Streets::crowded, NOTHING, "judge", with(3));
        refused(Streets::crowded, BAD, "judge", with(0), with(1), with(2));
        refused(() -> withSheets(2), BAD, "judge", with(0), with(1), with(2));
        refused(() -> withSheets(4), BAD, "judge", with(0), with(1), with(2));
    }

    private static void p23thrownBy() {
        refused(Streets::lived, BAD, "thrownBy", each(with(5, 0), 1, -1, 11, LEAST, MOST));
        refused(Streets::bare, BAD, "thrownBy", with(0, -1), with(0, 11));
    }

    private static void p24chance() {
        int[] good = {5, 4, 5, 0};
        refused(Streets::lived, PapersEarly.NO, "chance", each(good, 1, 0, 21, -1, LEAST, MOST));
        refused(Streets::lived, PapersEarly.NO, "chance", each(good, 2, -1, 11, LEAST, MOST));
        refused(Streets::lived, PapersEarly.NO, "chance", each(good, 3, -1, 2, LEAST, MOST));
        refused(Streets::bare, PapersEarly.NO, "chance", with(0, 0, 5, 0), with(0, 21, 5, 0), with(0, 1, 11, 1));
    }

    private static void p26back() {
        refused(Streets::bare, STATE, "back", with());
        refused(() -> Streets.doors(7), STATE, "back", with());
        refused(Streets::readFull, STATE, "back", with());
    }

    private static void p27count() {
        refused(Streets::lived, BAD, "count", each(with(0), 0, -1, 14, LEAST, MOST));
        refused(Streets::bare, BAD, "count", with(-1), with(14));
    }

    private static void p28sheet() {
        for (int sheet = 0; sheet < 4; sheet++) {
            for (int sort = 0; sort < 3; sort++) {
                refused(Streets::lived, BAD, "sheet", each(with(sheet, sort, 0), 2, 41, MOST));
                refused(Streets::lived, BELOW, "sheet", each(with(sheet, sort, 0), 2, -1, LEAST));
            }
        }
        int[] noSort = {-2, 3, LEAST, MOST};
        int[] noSheet = {-1, 4, LEAST, MOST};
        refused(Streets::lived, BAD, "sheet", each(with(0, 0, 3), 0, noSheet));
        refused(Streets::lived, BAD, "sheet", each(with(0, -1, 3), 0, noSheet));
        refused(Streets::lived, BAD, "sheet", each(with(0, 0, 3), 1, noSort));
        // BAD, of SHEET and of sort, is named ahead of -14.
        refused(Streets::lived, BAD, "sheet", each(with(0, 0, -1), 0, noSheet));
        refused(Streets::lived, BAD, "sheet", each(with(0, 0, -1), 1, noSort));
    }

    private static void p29cell() {
        int[] noItem = {-1, 3, LEAST, MOST};
        for (int sheet = 0; sheet < 3; sheet++) {
            refused(Streets::lived, OUTSIDE, "cell", each(with(sheet, 0, 2), 1, noItem));
        }
        refused(Streets::lived, NOTHING, "cell", with(3, 0, 2));
        // Missing is named ahead of a place outside, no such SHEET ahead of both.
        refused(Streets::lived, NOTHING, "cell", each(with(3, 0, 2), 1, noItem));
        refused(Streets::lived, BAD, "cell", each(with(0, 0, 2), 0, -1, 4, LEAST, MOST));
        refused(Streets::lived, BAD, "cell", each(with(0, -1, 2), 0, -1, 4, LEAST, MOST));
        refused(() -> withSheets(0), OUTSIDE, "cell", with(0, 0, 1), with(1, 0, 1), with(2, -1, 1));
        refused(() -> withSheets(40), OUTSIDE, "cell", with(0, 40, 1), with(1, 40, 1), with(2, 40, 1));
    }

    private static void p30copy() {
        int[] noSheet = {-1, 4, LEAST, MOST};
        refused(Streets::lived, BAD, "copy", each(with(0, 0, 0, 1, 1), 0, noSheet));
        refused(Streets::lived, BAD, "copy", each(with(0, 0, 0, 1, 1), 2, noSheet));
        // No such SHEET is named ahead of a missing one, of one of another sort, and of a place outside.
        refused(Streets::lived, BAD, "copy", with(3, 0, 4, 0, 1), with(4, 0, 3, 0, 1), with(-1, 9, 1, 0, 1));
        refused(Streets::lived, BAD, "copy", with(0, -1, 4, 0, 1), with(4, 0, 0, 0, -1));
        refused(Streets::lived, NOTHING, "copy", with(3, 0, 0, 0, 1), with(0, 0, 3, 0, 1), with(3, 0, 3, 0, 0));
        // A missing one is named ahead of unlike sorts and of a place outside.
        refused(Streets::lived, NOTHING, "copy", with(3, 0, 1, 9, 1), with(2, -1, 3, 0, 1), with(0, 0, 3, 0, -1));
        refused(Streets::lived, UNLIKE, "copy", with(0, 0, 1, 0, 1), with(1, 0, 0, 0, 1), with(1, 0, 2, 0, 3));
        refused(Streets::lived, UNLIKE, "copy", with(2, 0, 0, 0, 1), with(0, 0, 2, 0, 0));
        // Unlike sorts are named ahead of a place outside.
        refused(Streets::lived, UNLIKE, "copy", with(0, -1, 1, 0, 1), with(0, 0, 1, 3, 1), with(0, 0, 1, 0, -1));
        refused(Streets::lived, UNLIKE, "copy", with(2, 0, 1, 0, 4), with(2, LEAST, 1, MOST, MOST));
        // Sheet 2 has three items, sheet 3 five.
        refused(Streets::livedWithLikeSheets, OUTSIDE, "copy", each(with(2, 0, 3, 0, 1), 1, -1, 3, LEAST, MOST));
        refused(Streets::livedWithLikeSheets, OUTSIDE, "copy", each(with(2, 0, 3, 0, 1), 3, -1, 5, LEAST, MOST));
        refused(Streets::livedWithLikeSheets, OUTSIDE, "copy", each(with(2, 0, 3, 0, 1), 4, -1, 4, LEAST, MOST));
        refused(Streets::livedWithLikeSheets, OUTSIDE, "copy", with(2, 1, 3, 0, 3), with(2, 0, 3, 3, 3));
        refused(Streets::livedWithLikeSheets, OUTSIDE, "copy", with(3, 2, 2, 0, 4), with(3, 0, 2, 1, 3));
        refused(Streets::livedWithLikeSheets, OUTSIDE, "copy", with(2, 1, 3, 1, MOST), with(2, -1, 3, -1, -1));
        refused(Streets::livedWithLikeSheets, OUTSIDE, "copy", with(2, MOST, 3, MOST, MOST), with(2, 3, 3, 5, -1));
        refused(Streets::livedWithLikeSheets, OUTSIDE, "copy", with(2, 0, 2, 1, 3), with(2, 2, 2, 0, 2));
    }

    private static void p31houses() {
        int[] noSheet = {-1, 4, LEAST, MOST};
        int[] noSort = {-1, 3, LEAST, MOST};
        int[] noMany = {-1, 8, LEAST, MOST};
        refused(Streets::lived, BAD, "houses", each(with(1, 1, 0, 1), 0, noSheet));
        refused(Streets::lived, BAD, "houses", each(with(1, 1, 0, 1), 1, noSort));
        refused(Streets::lived, BAD, "houses", each(with(1, 1, 0, 1), 3, noMany));
        // These are named ahead of another sort (sheet 0 is of bytes), a missing one, a place outside.
        refused(Streets::lived, BAD, "houses", each(with(0, 1, 0, 1), 3, noMany));
        refused(Streets::lived, BAD, "houses", each(with(3, 1, 0, 1), 3, noMany));
        refused(Streets::lived, BAD, "houses", each(with(3, 1, 0, 1), 1, noSort));
        refused(Streets::lived, BAD, "houses", each(with(1, 1, -1, 1), 3, noMany));
        refused(Streets::lived, BAD, "houses", each(with(1, 1, -1, 1), 1, noSort));
        for (int sheet = 0; sheet < 3; sheet++) {
            for (int sort = 0; sort < 3; sort++) {
                if (sort == sheet) continue;
                refused(Streets::lived, UNLIKE, "houses", with(sheet, sort, 0, 1), with(sheet, sort, 0, 0));
                // Another sort is named ahead of a place outside.
                refused(Streets::lived, UNLIKE, "houses", with(sheet, sort, -1, 1), with(sheet, sort, 1, 7));
            }
            // A missing one is of no sort, and named ahead of a place outside.
            refused(Streets::lived, NOTHING, "houses", with(3, sheet, 0, 1), with(3, sheet, 0, 0), with(3, sheet, -1, 1));
            refused(Streets::lived, OUTSIDE, "houses", each(with(sheet, sheet, 0, 1), 2, -3, -1, 1, 2, 3, LEAST, MOST));
        }
    }

    private static void p32taken() {
        int[] noKind = {-1, 6, LEAST, MOST};
        refused(Streets::lived, BAD, "taken", each(with(0, 0), 1, noKind));
        // k is named ahead of a HOUSE that is none.
        refused(Streets::lived, BAD, "taken", each(with(3, 0), 1, noKind));
        refused(Streets::lived, NOTHING, "taken", each(with(0, 0), 0, -1, 3, LEAST, MOST));
        // And that one ahead of a KIND that it isn't.
        refused(Streets::lived, NOTHING, "taken", each(with(0, 5), 0, -1, 3, LEAST, MOST));
        refused(Streets::bare, NOTHING, "taken", with(0, 0), with(0, 5));
        refused(Streets::crowded, NOTHING, "taken", with(7, 0));
        // The houses of lived() are a GATE, a BELL under DOG, a SLOT under GATE.
        refused(Streets::lived, UNLIKE, "taken", with(0, 2), with(0, 3), with(0, 4), with(0, 5));
        refused(Streets::lived, UNLIKE, "taken", with(1, 1), with(1, 3), with(1, 5));
        refused(Streets::lived, UNLIKE, "taken", with(2, 2), with(2, 3), with(2, 4));
    }
}
