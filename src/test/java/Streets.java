/** Objects that a test begins with, and what it gives them. */
final class Streets {
    static void feed(PapersEarly x, String text) {
        for (int i = 0; i < text.length(); i++) {
            x.feed(text.charAt(i));
        }
    }

    /** A text is fed, read, and is THE RULE. */
    static void rule(PapersEarly x, String text) {
        feed(x, text);
        x.force(x.text());
    }

    /**
     * What an E is, told by when house 1 (place 7, side 1, sort 2) wants it, RAIN being 3; what text()
     * answers, if it is none.
     */
    static int by(String e) {
        PapersEarly x = new PapersEarly();
        x.house(0, 0, 0);
        x.house(0, 2, 71);
        x.bag(5, 3);
        feed(x, "by " + e + ";rings 0;tips 0;");
        int text = x.text();
        return x.force(text) < 0 ? text : x.told(1, 7);
    }

    /** A sheet becomes a row of these numbers. */
    static void row(PapersEarly x, int sheet, int sort, int... items) {
        x.sheet(sheet, sort, items.length);
        for (int i = 0; i < items.length; i++) {
            x.cell(sheet, i, items[i]);
        }
    }

    static PapersEarly bare() {
        return new PapersEarly();
    }

    /** So many plain doors at HEAP, NUMBER and SORT 0. */
    static PapersEarly doors(int many) {
        PapersEarly x = new PapersEarly();
        for (int i = 0; i < many; i++) {
            x.house(0, 0, 0);
        }
        return x;
    }

    /**
     * Three houses, two of them in THE IMAGE; a rule of its own, a text begun on THE TAPE, sheets of each
     * sort that tell of houses, sheet 3 missing; most numbers are other ones than at first.
     */
    static PapersEarly lived() {
        PapersEarly x = new PapersEarly();
        x.house(1, 23, 451);
        x.house(4, 31, 200);
        x.bag(6, 2);
        x.image();
        x.house(5, 12, 71);
        x.swap(0, 2);
        int[] terms = {9, 15, 30, 3, 2, 1, 3, 4, 5, 6};
        for (int what = 0; what < terms.length; what++) {
            x.bag(what, terms[what]);
        }
        rule(x, "by 40+house;rings late=3;tips 50;");
        feed(x, "by 1+");
        row(x, 0, 0, 1, 23, 121);
        row(x, 1, 1, 3, 92, 981);
        row(x, 2, 2, 5, 13, 50);
        return x;
    }

    /** As lived(), and sheet 3 is of ints, as sheet 2. */
    static PapersEarly livedWithLikeSheets() {
        PapersEarly x = lived();
        row(x, 3, 2, 2, 31, 201, 0, 90);
        return x;
    }

    /** Seven houses, with all that lived() has. */
    static PapersEarly crowded() {
        PapersEarly x = lived();
        for (int i = 0; i < 4; i++) {
            x.house(i, 11 * i, 250 * i);
        }
        return x;
    }

    /** No byte more has room on THE TAPE. */
    static PapersEarly fedFull() {
        PapersEarly x = doors(1);
        feed(x, "by 1" + " ".repeat(155) + ";");
        return x;
    }

    /** No text more has room; a byte of one that would be a FAULT is on THE TAPE. */
    static PapersEarly readFull() {
        PapersEarly x = doors(2);
        for (int i = 1; i <= 5; i++) {
            feed(x, "by " + i + ";rings 0;tips 0;");
            x.text();
        }
        x.force(3);
        feed(x, "?");
        return x;
    }
}
