/**
 * What later calls show of an object, as a text: its numbers, houses and round, what would be best, its
 * sheets, THE TAPE, its texts and THE IMAGE. At most some 330 calls, since an object stands for 512.
 */
final class Seen {
    private final PapersEarly x;
    private final StringBuilder all = new StringBuilder();

    private Seen(PapersEarly x) {
        this.x = x;
    }

    /** All of it; the object is used up by this. */
    static String all(PapersEarly x) {
        Seen seen = new Seen(x);
        seen.now();
        seen.better();
        int[] sizes = seen.sizes();
        seen.tape();
        seen.texts();
        seen.image();
        seen.items(sizes);
        return seen.all.toString();
    }

    /** What can be seen without a change: numbers, houses, round. */
    static String now(PapersEarly x) {
        Seen seen = new Seen(x);
        seen.now();
        return seen.all.toString();
    }

    private long tell(String call, int... args) {
        long got = Ask.call(x, call, args);
        all.append(got).append(' ');
        return got;
    }

    private void part(String name) {
        all.append("| ").append(name).append(": ");
    }

    private void now() {
        part("numbers");
        numbers(0);
        houses(0, 7);
        part("round");
        for (int what = 0; what <= 4; what++) {
            tell("round", what);
        }
    }

    private void numbers(int from) {
        for (int what = from; what <= 13; what++) {
            tell("count", what);
        }
    }

    private void houses(int from, int last) {
        part("houses");
        for (int house = from; house < x.count(0); house++) {
            for (int what = 0; what <= last; what++) {
                tell("told", house, what);
            }
            all.append(", ");
        }
    }

    private void better() {
        part("better");
        for (int sort = 0; sort <= 1; sort++) {
            for (int place = -1; place < x.count(0); place++) {
                tell("best", sort, place);
            }
        }
        tell("begin");
        tell("heap", 0);
        tell("split", 0);
    }

    /** Which sheets there are, of which sort, how long: a number copied to its own place changes nothing. */
    private int[] sizes() {
        part("sheets");
        int[] sizes = new int[4];
        for (int sheet = 0; sheet < 4; sheet++) {
            int least = 0;
            int most = 41;
            while (most - least > 1) {
                int middle = (least + most) / 2;
                if (x.copy(sheet, middle - 1, sheet, middle - 1, 1) == 1) {
                    least = middle;
                } else {
                    most = middle;
                }
            }
            sizes[sheet] = least;
            all.append(least).append(" of ");
            for (int sort = 0; sort <= 2; sort++) {
                tell("houses", sheet, sort, 0, 0);
            }
        }
        return sizes;
    }

    /** What is on THE TAPE shows when the text is ended. */
    private void tape() {
        part("tape");
        String rest = "7;rings 0;tips 0;";
        for (int i = 0; i < rest.length() && x.count(2) < 160; i++) {
            x.feed(rest.charAt(i));
        }
        tell("text");
        tell("count", 1);
    }

    private void texts() {
        for (int text = 0; text < x.count(1); text++) {
            part("text " + text);
            tell("force", text);
            for (int house = 0; house < x.count(0); house++) {
                tell("told", house, 7);
            }
            tell("round", 3);
            tell("round", 4);
        }
    }

    private void image() {
        part("image");
        if (tell("back") >= 0) {
            numbers(3);
            houses(0, 5);
        }
    }

    /** What stands on the sheets shows in the houses that come from them. */
    private void items(int[] sizes) {
        for (int sheet = 0; sheet < 4; sheet++) {
            part("sheet " + sheet);
            for (int sort = 0; sort <= 2; sort++) {
                int many = x.count(0);
                x.houses(sheet, sort, 0, Math.min(7, sizes[sheet] / 3));
                if (x.count(0) > many) {
                    houses(many, 4);
                }
            }
        }
    }
}
