/** Each place where a number wraps around: an E, a SEED, bytes and shorts; and where none must. */
public final class WrapsTest {
    private static final int LEAST = Integer.MIN_VALUE, MOST = Integer.MAX_VALUE;
    /** 2^31 and 2^32, which an int has as its least number and as 0. */
    private static final String TWO31 = "2048*1024*1024", TWO32 = "4096*1024*1024";
    private static final Due due = new Due("WrapsTest");

    public static void main(String[] args) {
        p08productsWrap();
        p08sumsWrap();
        p08lessWraps();
        p08negativeWraps();
        p08comparisonsDoNot();
        p08truthOfWhatWrapped();
        p08boundsOfWhatWrapped();
        p23seedsWrap();
        p24seedsWrapOnTheWay();
        p29bytesWrap();
        p29shortsWrap();
        p29intsDoNot();
        p30placesDoNotWrap();
        p31placesDoNotWrap();
        due.end();
    }

    private static void by(String e, int want) {
        due.is("by " + e, Streets.by(e), want);
    }

    private static void p08productsWrap() {
        by("2047*1024*1024<0", 0);
        by(TWO31 + "<0", 1);
        by("4095*1024*1024<0", 1);
        by(TWO32 + "=0", 1);
        by("4097*1024*1024<0", 0);
        by("4097*1024*1024=1024*1024", 1);
        by("9999*9999*21<0", 0);
        by("9999*9999*22<0", 1);
        by("9999*9999*43-4172*1000", 747);
        by("-9999*9999*43+4173*1000", 253);
        by("9999*9999*9999*9999=9999*9999*(9999*9999)", 1);
        // 9999^4 is 9996000599960001, and that less 2327375 times 2^32 is 1089432001.
        by("9999*9999*9999*9999-1089*1000*1000-432*1000", 1);
    }

    private static void p08sumsWrap() {
        by(TWO31 + "-1", 999);
        by(TWO31 + "-1+1", 0);
        by(TWO31 + "-1+1<0", 1);
        by(TWO31 + "+" + TWO31, 0);
        by(TWO31 + "+" + TWO31 + "+7", 7);
        by(TWO31 + "-1+(" + TWO31 + "-1)+9", 7);
    }

    private static void p08lessWraps() {
        by("0-" + TWO31 + "<0", 1);
        by(TWO31 + "-1<0", 0);
        by("0-2-(" + TWO31 + "-1)<0", 0);
        by("0-2-(" + TWO31 + "-1)=" + TWO31 + "-1", 1);
        by("5-" + TWO31 + "-" + TWO31, 5);
    }

    private static void p08negativeWraps() {
        by("-(" + TWO31 + ")=" + TWO31, 1);
        by("-(" + TWO31 + ")<0", 1);
        by("-(" + TWO31 + "-1)<0", 1);
        by("-(" + TWO31 + "+1)<0", 0);
        by("-(" + TWO32 + ")+3", 3);
    }

    private static void p08comparisonsDoNot() {
        by("(" + TWO31 + ")<" + TWO31 + "-1", 1);
        by(TWO31 + "-1<" + TWO31, 0);
        by(TWO31 + "-1<-1", 0);
        by(TWO31 + "<1", 1);
        by(TWO31 + "=0", 0);
        by(TWO31 + "=0-" + TWO31, 1);
    }

    private static void p08truthOfWhatWrapped() {
        by(TWO32 + " or 0", 0);
        by(TWO32 + " and 1", 0);
        by("not(" + TWO32 + ")", 1);
        by(TWO31 + " and 1", 1);
        by(TWO31 + " or 0", 1);
        by("not " + TWO31, 0);
    }

    /** A house that is late by 0; what is told of the part of a text that has e. */
    private static PapersEarly ruled(String by, String rings, String tips) {
        PapersEarly x = Streets.doors(1);
        Streets.rule(x, "by " + by + ";rings " + rings + ";tips " + tips + ";");
        return x;
    }

    private static void p08boundsOfWhatWrapped() {
        by(TWO31, 0);
        by(TWO31 + "-1", 999);
        by(TWO32 + "-1", 0);
        by(TWO32 + "+1000", 999);
        by(TWO32 + "+998", 998);
        due.is("rings 2^31", ruled("0", TWO31, "0").round(3), 1);
        due.is("rings 2^32", ruled("0", TWO32, "0").round(3), 0);
        due.is("rings 2^32 + 1", ruled("0", TWO32 + "+1", "0").round(3), 1);
        due.is("tips 2^31", ruled("0", "0", TWO31).at(0, 2), 0);
        due.is("tips 2^31 - 1", ruled("0", "0", TWO31 + "-1").at(0, 2), 99);
        due.is("tips 2^32 + 5", ruled("0", "0", TWO32 + "+5").at(0, 2), 5);
    }

    /** How many lie right, with z kept as the lowest 32 bits of a long number without a sign. */
    private static int right(long seed, int odds, int houses) {
        long z = seed;
        int right = 0;
        for (int i = 0; i < houses; i++) {
            z = z * 1103515245L + 12345L & 0xFFFFFFFFL;
            right += z / 1024 % 10 < odds ? 1 : 0;
        }
        return right;
    }

    private static void p23seedsWrap() {
        int[] seeds = {0, 1, 2, 3, -1, -2, -3, 100000, -100000, MOST, MOST - 1, LEAST, LEAST + 1};
        for (int houses = 1; houses <= 7; houses++) {
            PapersEarly x = Streets.doors(houses);
            for (int seed : seeds) {
                for (int odds = 2; odds <= 8; odds += 3) {
                    due.is("thrownBy(" + seed + ", " + odds + ") of " + houses, x.thrownBy(seed, odds),
                        right(seed, odds, houses));
                }
            }
        }
    }

    private static void p24seedsWrapOnTheWay() {
        PapersEarly x = Streets.doors(1);
        for (int from = 0; from < 20; from++) {
            for (int odds = 1; odds <= 9; odds += 2) {
                int all = 0;
                for (int i = 0; i < 20; i++) {
                    all += right((int) (MOST - (long) from + i), odds, 1);
                }
                int seed = MOST - from;
                String call = "chance(" + seed + ", 20, " + odds + ", ..)";
                due.is(call, x.chance(seed, 20, odds, 0) * 20, x.chance(seed, 20, odds, 1) * all);
            }
        }
        due.is("behind the greatest int comes the least", x.chance(MOST, 2, 5, 0) * 2,
            x.chance(MOST, 2, 5, 1) * (right(MOST, 5, 1) + right(LEAST, 5, 1)));
    }

    /** Whether an item that was put so is this number: house 0 is reached in minute v, and the sheet tells so. */
    private static boolean becomes(int sort, int put, int v) {
        PapersEarly x = Streets.doors(1);
        x.bag(2, v);
        Streets.row(x, 2, sort, put);
        return x.judge(2) == PapersEarly.NONE;
    }

    private static void becoming(int sort, int[][] putAndBecome) {
        for (int[] w : putAndBecome) {
            due.holds("sort " + sort + ": " + w[0] + " becomes " + w[1], becomes(sort, w[0], w[1]));
        }
    }

    private static void p29bytesWrap() {
        becoming(0, new int[][] {{0, 0}, {1, 1}, {126, 126}, {127, 127}, {256, 0}, {257, 1}, {383, 127}, {512, 0},
            {-256, 0}, {-255, 1}, {-129, 127}, {65536 + 5, 5}, {65535 - 250, 5}, {LEAST, 0}, {LEAST + 9, 9}, {MOST - 255, 0}});
        // Bytes and shorts have a sign: the upper half of them is below 0.
        for (int v = 128; v <= 255; v++) {
            due.holds("a byte of " + v + " is below 0", !becomes(0, v, v));
            due.holds("a byte of " + (v + 256) + " is below 0", !becomes(0, v + 256, v));
        }
    }

    private static void p29shortsWrap() {
        becoming(1, new int[][] {{0, 0}, {127, 127}, {128, 128}, {255, 255}, {256, 256}, {999, 999}, {65536, 0},
            {65536 + 999, 999}, {-65536, 0}, {-65536 + 300, 300}, {131072 + 1, 1}, {LEAST, 0}, {LEAST + 777, 777}});
        due.holds("a short of 65535 is not 65535", !becomes(1, 65535, 999));
    }

    private static void p29intsDoNot() {
        becoming(2, new int[][] {{0, 0}, {255, 255}, {256, 256}, {999, 999}});
        int[] others = {65536 + 5, -65536 + 5, LEAST + 5, 256 + 5, -251};
        for (int put : others) {
            due.holds("an int of " + put + " is not 5", !becomes(2, put, 5));
        }
    }

    private static void p30placesDoNotWrap() {
        PapersEarly x = Streets.bare();
        x.sheet(0, 2, 40);
        x.sheet(1, 2, 40);
        int[][] wide = {{1, 0, MOST}, {0, 1, MOST}, {MOST, 0, MOST}, {MOST, MOST, 2}, {MOST, 0, 1}, {0, MOST, 1},
            {40, 40, LEAST}, {LEAST, LEAST, LEAST}, {LEAST, 0, MOST}, {MOST, MOST, MOST}};
        for (int[] w : wide) {
            due.is("copy(0, " + w[0] + ", 1, " + w[1] + ", " + w[2] + ")", x.copy(0, w[0], 1, w[1], w[2]), -12);
        }
        due.is("cell(0, MOST, 1)", x.cell(0, MOST, 1), -12);
        due.is("cell(0, LEAST, 1)", x.cell(0, LEAST, 1), -12);
    }

    private static void p31placesDoNotWrap() {
        PapersEarly x = Streets.bare();
        x.sheet(0, 2, 40);
        int[] from = {MOST, MOST - 1, MOST - 2, MOST - 20, LEAST, LEAST + 1, -1, -2, -3, -21};
        for (int f : from) {
            due.is("houses(0, 2, " + f + ", 7)", x.houses(0, 2, f, 7), -12);
            due.is("none came", x.count(0), 0);
        }
    }
}
