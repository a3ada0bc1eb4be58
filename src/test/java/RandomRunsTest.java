import java.lang.reflect.Method;
import java.lang.reflect.Modifier;
import java.util.ArrayList;
import java.util.Arrays;
import java.util.HashMap;
import java.util.List;
import java.util.Map;
import java.util.Random;

/** All promises: drawn runs of calls, each answered by the class and by the plain Model alike. */
public final class RandomRunsTest {
    private static final int RUNS = 400, CALLS = 512;
    private static final String[] ALL = {
        "house", "set", "bag", "told", "swap", "feed", "text", "force", "at", "round", "shifted", "where", "best",
        "arrange", "ways", "begin", "heap", "split", "drop", "away", "judge", "thrownBy", "chance", "image", "back",
        "count", "sheet", "cell", "copy", "houses", "taken"};
    private static final int[] EDGES = {
        Integer.MIN_VALUE, Integer.MIN_VALUE + 1, -1000, -3, -2, -1, 41, 61, 100, 256, 1000,
        Integer.MAX_VALUE - 1, Integer.MAX_VALUE};

    private final Random random;
    private final PapersEarly real = new PapersEarly();
    private final Model model = new Model();
    private final List<String> made = new ArrayList<>();
    private final boolean wild;
    private int calls = 0;

    private RandomRunsTest(long seed) {
        random = new Random(seed);
        wild = seed % 5 == 0;
    }

    public static void main(String[] args) throws Exception {
        Due due = new Due("RandomRunsTest");
        int many = args.length > 0 ? Integer.parseInt(args[0]) : RUNS;
        int wrong = 0;
        for (int seed = 0; seed < many && wrong < 3; seed++) {
            boolean alike = new RandomRunsTest(seed).run();
            due.holds("run " + seed, alike);
            wrong += alike ? 0 : 1;
        }
        due.end();
    }

    /** All the calls that an object stands for. */
    private boolean run() throws Exception {
        boolean alike = true;
        for (int begin = random.nextInt(9); begin > 0 && alike; begin--) {
            alike = alike("house");
        }
        while (calls < CALLS && alike) {
            String name = ALL[random.nextInt(ALL.length)];
            if (name.equals("house") && random.nextInt(3) > 0) continue;
            alike = name.equals("feed") && random.nextInt(3) == 0 ? feedsText() : drawsRow(name) && alike(name);
        }
        return alike;
    }

    private boolean alike(String name) throws Exception {
        return same(name, drawn(name));
    }

    /** Whether both answer so; true without a call, when the object has had all that it stands for. */
    private boolean same(String name, int... args) throws Exception {
        if (calls >= CALLS) return true;
        calls++;
        long got = Ask.call(real, name, args);
        Object[] all = Arrays.stream(args).boxed().toArray();
        long want = ((Number) MODEL.get(name).invoke(model, all)).longValue();
        made.add(Ask.words(name, args) + " = " + got);
        if (got == want) return true;
        System.out.println(String.join("\n", made));
        System.out.println("due is " + want);
        return false;
    }

    private static final Map<String, Method> MODEL = new HashMap<>();

    static {
        for (Method m : Model.class.getDeclaredMethods()) {
            if (Modifier.isPublic(m.getModifiers())) MODEL.put(m.getName(), m);
        }
    }

    private int[] drawn(String name) {
        int[] args = plain(name);
        for (int i = 0; i < args.length; i++) {
            boolean edge = random.nextInt(wild ? 4 : 60) == 0;
            args[i] = edge ? EDGES[random.nextInt(EDGES.length)] : args[i];
        }
        return args;
    }

    private int below(int n) {
        return random.nextInt(n);
    }

    /** One of the houses that there are, mostly. */
    private int aHouse() {
        return below(Math.max(1, model.count(0) + below(2)));
    }

    private int aMinute() {
        return model.count(0) > 0 && below(4) > 0 ? model.at(below(model.count(0)), 0) : below(1200);
    }

    private int[] plain(String name) {
        return switch (name) {
            case "house" -> new int[] {below(6), 10 * below(10) + below(4), 10 * aPlace() + below(2)};
            case "set" -> aFact();
            case "bag" -> aTerm();
            case "told" -> new int[] {aHouse(), below(9)};
            case "swap" -> new int[] {aHouse(), aHouse()};
            case "feed" -> new int[] {below(256)};
            case "force" -> new int[] {below(model.count(1) + 1)};
            case "at" -> new int[] {aHouse(), below(4)};
            case "round" -> new int[] {below(6)};
            case "shifted" -> new int[] {aHouse() + below(2), below(4)};
            case "where" -> new int[] {aSheet(), below(2)};
            case "best" -> new int[] {below(2), below(8) - 1};
            case "arrange", "ways", "heap", "split" -> new int[] {below(2)};
            case "drop" -> new int[] {aHouse()};
            case "away" -> new int[] {below((1 << model.count(0)) + 1), below(2)};
            case "judge" -> new int[] {aSheet()};
            case "thrownBy" -> new int[] {random.nextInt(), below(12)};
            case "chance" -> new int[] {random.nextInt(), below(22), 7 + below(4), below(2)};
            case "count" -> new int[] {below(15)};
            case "sheet" -> new int[] {below(4), below(4) - 1, below(3) > 0 ? model.count(0) : below(42)};
            case "cell" -> new int[] {below(4), below(8), below(3) == 0 ? aMinute() : below(3)};
            case "copy" -> new int[] {below(4), below(5), below(4), below(5), below(6)};
            case "houses" -> new int[] {below(4), below(3), below(10), below(8)};
            case "taken" -> new int[] {aHouse(), below(7)};
            default -> new int[0];
        };
    }

    private int aPlace() {
        return below(3) == 0 ? 4 * below(4) : below(100);
    }

    private int[] aFact() {
        int what = below(5);
        return new int[] {aHouse(), what, below(new int[] {11, 101, 3, 5, 5}[what])};
    }

    private int[] aTerm() {
        int what = below(11);
        int v = below(new int[] {30, 101, 60, 11, 11, 11, 11, 11, 11, 11, 11}[what]);
        return new int[] {what, what == 2 && below(8) == 0 ? below(1001) : v};
    }

    /** Ahead of where() and judge() a sheet is, mostly, filled so that it tells of the houses that there are. */
    private boolean drawsRow(String name) throws Exception {
        boolean rung = name.equals("where");
        if (!rung && !name.equals("judge") || below(3) == 0) return true;
        int many = model.count(0);
        int[] items = new int[many];
        int bits = model.shifted(below(many + 1), 1);
        for (int h = 0; h < many; h++) {
            if (rung) {
                items[h] = (bits >> h & 1) + (below(40) == 0 ? 2 : 0);
            } else {
                items[model.told(h, 5)] = model.at(h, 0) + (below(12) == 0 ? 1 : 0);
            }
        }
        filled = below(4);
        boolean same = same("sheet", filled, below(3), many);
        for (int i = 0; i < many && same; i++) {
            same = same("cell", filled, i, items[i]);
        }
        return same;
    }

    private int filled = 0;

    private int aSheet() {
        return below(3) > 0 ? filled : below(4);
    }

    /** A drawn text is fed, now and then with a byte that is another one, and read. */
    private boolean feedsText() throws Exception {
        StringBuilder text = new StringBuilder("by ").append(drawnE(3)).append(blank()).append("; rings ");
        text.append(drawnE(2)).append(';').append(blank()).append("tips").append(' ').append(drawnE(2)).append(";");
        if (below(2) == 0) {
            String bytes = "()-;<=+*19a nt\n" + (char) below(256);
            text.setCharAt(below(text.length()), bytes.charAt(below(bytes.length())));
        }
        if (below(4) == 0) text.setLength(below(text.length()));
        if (below(8) == 0) text.append(blank()).append(below(2) == 0 ? ";" : " ");
        for (int i = 0; i < text.length(); i++) {
            if (!same("feed", text.charAt(i))) return false;
        }
        return alike("text") && (below(2) == 0 || same("force", model.count(1) - 1));
    }

    private String blank() {
        return below(3) == 0 ? "" : below(5) == 0 ? "\n" : " ";
    }

    private String drawnE(int depth) {
        String[] signs = {"+", "-", "*", "<", "=", " and ", " or "};
        String[] names = {"place", "side", "sort", "late", "rain", "house"};
        if (depth == 0 || below(4) == 0) {
            return below(2) == 0 ? names[below(6)] : String.valueOf(below(below(4) == 0 ? 10000 : 60));
        }
        switch (below(8)) {
            case 0:
                return "not " + drawnE(depth - 1);
            case 1:
                return "-" + blank() + drawnE(depth - 1);
            case 2:
                return "(" + blank() + drawnE(depth - 1) + ")";
            case 3:
                return "((" + drawnE(depth - 1) + "))";
            default:
                return drawnE(depth - 1) + blank() + signs[below(7)] + blank() + drawnE(depth - 1);
        }
    }
}
