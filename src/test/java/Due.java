import java.util.function.Supplier;

/** What is due: counts the calls whose answer is another one, and ends with exit code 1 if there was one. */
final class Due {
    private final String name;
    private int asked = 0;
    private int wrong = 0;

    Due(String name) {
        this.name = name;
    }

    void is(String call, long got, long want) {
        asked++;
        if (got != want) {
            wrong++;
            System.out.println(name + ": " + call + " answered " + got + ", due is " + want);
        }
    }

    void holds(String what, boolean so) {
        asked++;
        if (!so) {
            wrong++;
            System.out.println(name + ": " + what + " does not hold");
        }
    }

    /** The call answers so, of an object that is made for it alone. */
    void answers(Supplier<PapersEarly> made, long want, String call, int... args) {
        is(Ask.words(call, args), Ask.call(made.get(), call, args), want);
    }

    /** The call is refused so, and no later call shows another thing than if it had not been made. */
    void refuses(Supplier<PapersEarly> made, long want, String call, int... args) {
        PapersEarly asked = made.get();
        is(Ask.words(call, args), Ask.call(asked, call, args), want);
        String then = Seen.all(asked);
        String other = Seen.all(made.get());
        if (!then.equals(other)) {
            wrong++;
            System.out.println(name + ": " + Ask.words(call, args) + " was refused and changed\n  " + other
                + "\nto\n  " + then);
        }
    }

    void end() {
        System.out.println(name + ": " + asked + " asked, " + wrong + " wrong");
        if (wrong != 0) {
            System.exit(1);
        }
    }
}
