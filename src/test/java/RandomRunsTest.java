import java.lang.reflect.Method;
import java.util.ArrayList;
import java.util.Arrays;
import java.util.Comparator;
import java.util.List;
import java.util.Random;

/** All promises: drawn runs of calls, each answered by the class and by the plain Model alike. */
public final class RandomRunsTest {
    private static final int RUNS = 400, CALLS = 300;
    private static final String[] ALL = {
        "house", "set", "bag", "told", "swap", "feed", "text", "force", "at", "round", "shifted", "where", "best",
        "arrange", "ways", "begin", "heap", "split", "drop", "away", "judge", "thrownBy", "chance", "image", "back",
        "count", "sheet", "cell", "copy", "houses", "taken"};
    private static final int[] EDGES = {
        Integer.MIN_VALUE, Integer.MIN_VALUE + 1, -1000, -3, -2, -1, 41, 61, 100, 256, 1000,
        Integer.MAX_VALUE - 1, Integer.MAX_VALUE};

    private final Random random;
    private final PapersEarly real = new PapersEarly();
    private final Model model = new Model();
    private final List<String> made = new ArrayList<>();
    private final boolean wild;

    private RandomRunsTest(long seed) {
        random = new Random(seed);
        wild = seed % 5 == 0;
    }

    public static void main(String[] args) throws Exception {
        Due due = new Due("RandomRunsTest");
        int many = args.length > 0 ? Integer.parseInt(args[0]) : RUNS;
        int wrong = 0;
        for (int seed = 0; seed < many && wrong < 3; seed++) {
            boolean alike = new RandomRunsTest(seed).run();
            due.holds("run " + seed, alike);
            wrong += alike ? 0 : 1;
        }
        due.end();
    }

    private boolean run() throws Exception {
        int begin = random.nextInt(9);
        for (int i = 0; i < begin; i++) {
            if (!alike("house", 0)) return false;
        }
        for (int i = 0; i < CALLS; i++) {
            String name = ALL[random.nextInt(ALL.length)];
            boolean same = name.equals("feed") && random.nextInt(3) > 0 ? feedsText() : alike(name, i);
            if (!same) return false;
        }
        return true;
    }

    private boolean alike(String name, int calls) throws Exception {
        if (name.equals("house") && calls > 0 && random.nextInt(3) > 0) return true;
        Method asked = method(PapersEarly.class, name);
        Object[] args = drawn(name);
        Object got = asked.invoke(real, args);
        Object want = method(Model.class, name).invoke(model, args);
        made.add(name + Arrays.toString(args) + " = " + got);
        if (got.equals(want)) return true;
        System.out.println(String.join("\n", made.subList(Math.max(0, made.size() - 60), made.size())));
        System.out.println("due is " + want);
        return false;
    }

    private static final List<Method> METHODS = new ArrayList<>();

    private static Method method(Class<?> of, String name) {
        for (Method m : METHODS) {
            if (m.getDeclaringClass() == of && m.getName().equals(name)) return m;
        }
        Method found = Arrays.stream(of.getDeclaredMethods())
            .filter(m -> m.getName().equals(name) && java.lang.reflect.Modifier.isPublic(m.getModifiers()))
            .min(Comparator.comparing(Method::getName)).get();
        METHODS.add(found);
        return found;
    }

    private Object[] drawn(String name) {
        int[] plain = plain(name);
        Object[] args = new Object[plain.length];
        for (int i = 0; i < plain.length; i++) {
            boolean edge = random.nextInt(wild ? 4 : 60) == 0;
            args[i] = edge ? EDGES[random.nextInt(EDGES.length)] : plain[i];
        }
        return args;
    }

    private int below(int n) {
        return random.nextInt(n);
    }

    /** One of the houses that there are, mostly. */
    private int aHouse() {
        return below(Math.max(1, real.count(0) + below(2)));
    }

    private int aMinute() {
        return real.count(0) > 0 && below(4) > 0 ? real.at(below(real.count(0)), 0) : below(1200);
    }

    private int[] plain(String name) {
        return switch (name) {
            case "house" -> new int[] {below(6), 10 * below(10) + below(4), 10 * aPlace() + below(2)};
            case "set" -> aFact();
            case "bag" -> aTerm();
            case "told" -> new int[] {aHouse(), below(9)};
            case "swap" -> new int[] {aHouse(), aHouse()};
            case "feed" -> new int[] {below(256)};
            case "force" -> new int[] {below(real.count(1) + 1)};
            case "at" -> new int[] {aHouse(), below(4)};
            case "round" -> new int[] {below(6)};
            case "shifted" -> new int[] {aHouse() + below(2), below(4)};
            case "where" -> new int[] {aRung(), below(2)};
            case "best" -> new int[] {below(2), below(8) - 1};
            case "arrange", "ways", "heap", "split" -> new int[] {below(2)};
            case "drop" -> new int[] {aHouse()};
            case "away" -> new int[] {below((1 << real.count(0)) + 1), below(2)};
            case "judge" -> new int[] {aJudged()};
            case "thrownBy" -> new int[] {random.nextInt(), below(12)};
            case "chance" -> new int[] {random.nextInt(), below(22), 7 + below(4), below(2)};
            case "count" -> new int[] {below(15)};
            case "sheet" -> new int[] {below(4), below(4) - 1, below(3) > 0 ? real.count(0) : below(42)};
            case "cell" -> new int[] {below(4), below(8), below(3) == 0 ? aMinute() : below(3)};
            case "copy" -> new int[] {below(4), below(5), below(4), below(5), below(6)};
            case "houses" -> new int[] {below(4), below(3), below(10), below(8)};
            case "taken" -> new int[] {aHouse(), below(7)};
            default -> new int[0];
        };
    }

    private int aPlace() {
        return below(3) == 0 ? 4 * below(4) : below(100);
    }

    private int[] aFact() {
        int what = below(5);
        return new int[] {aHouse(), what, below(new int[] {11, 101, 3, 5, 5}[what])};
    }

    private int[] aTerm() {
        int what = below(11);
        int v = below(new int[] {30, 101, 60, 11, 11, 11, 11, 11, 11, 11, 11}[what]);
        return new int[] {what, what == 2 && below(8) == 0 ? below(1001) : v};
    }

    /** A sheet that tells, mostly, who rings up when it shifted somewhere. */
    private int aRung() {
        int sheet = below(4);
        if (below(3) > 0) {
            int bits = real.shifted(below(real.count(0) + 1), 1);
            remake(sheet, below(3));
            for (int h = 0; h < real.count(0); h++) {
                fill(sheet, h, (bits >> h & 1) + (below(40) == 0 ? 2 : 0));
            }
        }
        return sheet;
    }

    /** A sheet that tells, mostly, when one is at the houses. */
    private int aJudged() {
        int sheet = below(4);
        if (below(3) > 0) {
            remake(sheet, below(3));
            for (int h = 0; h < real.count(0); h++) {
                fill(sheet, real.told(h, 5), real.at(h, 0) + (below(12) == 0 ? 1 : 0));
            }
        }
        return sheet;
    }

    private void remake(int sheet, int sort) {
        made.add("sheet " + sheet + " of sort " + sort);
        real.sheet(sheet, sort, real.count(0));
        model.sheet(sheet, sort, real.count(0));
    }

    private void fill(int sheet, int i, int v) {
        made.add("cell " + sheet + ", " + i + ", " + v);
        real.cell(sheet, i, v);
        model.cell(sheet, i, v);
    }

    /** A drawn text is fed, now and then with a byte that is another one, and read. */
    private boolean feedsText() throws Exception {
        StringBuilder text = new StringBuilder("by ").append(drawnE(3)).append(blank()).append("; rings ");
        text.append(drawnE(2)).append(';').append(blank()).append("tips").append(' ').append(drawnE(2)).append(";");
        if (below(2) == 0) {
            String bytes = "()-;<=+*19a nt\n" + (char) below(256);
            text.setCharAt(below(text.length()), bytes.charAt(below(bytes.length())));
        }
        if (below(4) == 0) text.setLength(below(text.length()));
        if (below(8) == 0) text.append(blank()).append(below(2) == 0 ? ";" : " ");
        for (int i = 0; i < text.length(); i++) {
            int got = real.feed(text.charAt(i));
            if (got != model.feed(text.charAt(i))) return false;
        }
        made.add("fed: " + text);
        if (!alike("text", 1)) return false;
        return below(2) == 0 || alike("force", 1);
    }

    private String blank() {
        return below(3) == 0 ? "" : below(5) == 0 ? "\n" : " ";
    }

    private String drawnE(int depth) {
        String[] signs = {"+", "-", "*", "<", "=", " and ", " or "};
        String[] names = {"place", "side", "sort", "late", "rain", "house"};
        if (depth == 0 || below(4) == 0) {
            return below(2) == 0 ? names[below(6)] : String.valueOf(below(below(4) == 0 ? 10000 : 60));
        }
        switch (below(8)) {
            case 0:
                return "not " + drawnE(depth - 1);
            case 1:
                return "-" + blank() + drawnE(depth - 1);
            case 2:
                return "(" + blank() + drawnE(depth - 1) + ")";
            case 3:
                return "((" + drawnE(depth - 1) + "))";
            default:
                return drawnE(depth - 1) + blank() + signs[below(7)] + blank() + drawnE(depth - 1);
        }
    }
}
