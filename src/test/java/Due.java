import java.util.function.LongSupplier;

/** What is due: counts the calls whose answer is another one, and ends with exit code 1 if there was one. */
final class Due {
    private final String name;
    private int asked = 0;
    private int wrong = 0;

    Due(String name) {
        this.name = name;
    }

    void is(String call, long got, long want) {
        asked++;
        if (got != want) {
            wrong++;
            System.out.println(name + ": " + call + " answered " + got + ", due is " + want);
        }
    }

    void holds(String what, boolean so) {
        asked++;
        if (!so) {
            wrong++;
            System.out.println(name + ": " + what + " does not hold");
        }
    }

    /** A refused call answers as it must and changes nothing that can be seen. */
    void refuses(PapersEarly x, String call, LongSupplier made, long want) {
        String before = seen(x);
        is(call, made.getAsLong(), want);
        String after = seen(x);
        if (!before.equals(after)) {
            wrong++;
            System.out.println(name + ": " + call + " was refused and changed " + before + " to " + after);
        }
    }

    void end() {
        System.out.println(name + ": " + asked + " asked, " + wrong + " wrong");
        if (wrong != 0) {
            System.exit(1);
        }
    }

    /** All that is seen of an object, as one text. */
    static String seen(PapersEarly x) {
        StringBuilder all = new StringBuilder();
        for (int what = 0; what <= 13; what++) {
            all.append(x.count(what)).append(' ');
        }
        for (int house = 0; house < x.count(0); house++) {
            all.append('|');
            for (int what = 0; what <= 7; what++) {
                all.append(x.told(house, what)).append(' ');
            }
        }
        all.append('|');
        for (int what = 0; what <= 4; what++) {
            all.append(x.round(what)).append(' ');
        }
        return all.toString();
    }

    static void feed(PapersEarly x, String text) {
        for (int i = 0; i < text.length(); i++) {
            x.feed(text.charAt(i));
        }
    }

    /** A text is fed, read, and is the rule. */
    static void rule(PapersEarly x, String text) {
        feed(x, text);
        x.force(x.text());
    }

    /** A sheet becomes a row of these numbers. */
    static void row(PapersEarly x, int sheet, int sort, int... items) {
        x.sheet(sheet, sort, items.length);
        for (int i = 0; i < items.length; i++) {
            x.cell(sheet, i, items[i]);
        }
    }
}
