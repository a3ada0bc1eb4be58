import java.util.ArrayList;
import java.util.List;

/**
 * Promises 5, 10 to 14, 16 to 24, 27 and 32: a call that asks changes nothing. Each question is answered
 * alike whether it is the first one of an object or comes behind any other.
 */
public final class QuestionsTest {
    private static final Due due = new Due("QuestionsTest");
    private static final List<String> NAMES = new ArrayList<>();
    private static final List<int[]> ARGS = new ArrayList<>();

    public static void main(String[] args) {
        listQuestions();
        int unlike = 0;
        for (int b = 0; b < NAMES.size(); b++) {
            long first = asked(lived(), b);
            for (int a = 0; a < NAMES.size(); a++) {
                PapersEarly x = lived();
                asked(x, a);
                long then = asked(x, b);
                if (then != first && unlike++ < 9) {
                    due.is(Ask.words(NAMES.get(b), ARGS.get(b)) + " behind " + Ask.words(NAMES.get(a), ARGS.get(a)),
                        then, first);
                }
            }
        }
        due.is("questions that are answered otherwise behind another", unlike, 0);
        due.end();
    }

    private static long asked(PapersEarly x, int i) {
        return Ask.call(x, NAMES.get(i), ARGS.get(i));
    }

    /** Sheet 2 tells who rings up when it shifted at place 1, sheet 3 when one is at the houses. */
    private static PapersEarly lived() {
        PapersEarly x = Streets.lived();
        Streets.rule(x, "40+house;rings 4<late;tips 50;");
        int bits = x.shifted(1, 1);
        Streets.row(x, 2, 2, bits & 1, bits >> 1 & 1, bits >> 2 & 1);
        int[] minutes = new int[3];
        for (int h = 0; h < 3; h++) {
            minutes[x.told(h, 5)] = x.at(h, 0);
        }
        Streets.row(x, 3, 2, minutes);
        return x;
    }

    private static void ask(String name, int... args) {
        NAMES.add(name);
        ARGS.add(args);
    }

    private static void listQuestions() {
        for (int house = 0; house < 3; house++) {
            for (int what = 0; what <= 7; what += what == 0 ? 5 : 1) {
                ask("told", house, what);
            }
            for (int what = 0; what <= 2; what++) {
                ask("at", house, what);
            }
            ask("drop", house);
            ask("taken", house, 0);
        }
        for (int what = 0; what <= 4; what++) {
            ask("round", what);
        }
        for (int k = 0; k <= 3; k++) {
            ask("shifted", k, 1);
            ask("shifted", k, 2);
        }
        for (int what = 0; what <= 1; what++) {
            ask("where", 2, what);
            ask("ways", what);
            ask("heap", what);
            ask("split", what);
            for (int set = 0; set < 8; set += 3) {
                ask("away", set, what);
            }
            for (int place = -1; place < 3; place++) {
                ask("best", what, place);
            }
            ask("chance", 5, 20, 7, what);
        }
        ask("begin");
        ask("judge", 3);
        ask("judge", 2);
        ask("thrownBy", 5, 5);
        for (int what = 0; what <= 13; what++) {
            ask("count", what);
        }
    }
}
