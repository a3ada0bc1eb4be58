import java.util.Arrays;

/**
 * Papers before breakfast: the houses of a street, the list by which one walks, the round as it
 * goes, and what would be better. The document's promises say what each public method answers.
 */
public final class PapersEarly {
    public static final int NONE = -1, BAD = -2, STATE = -3, FULL = -4;
    public static final long NO = -4611686018427387904L;

    private static final int NOTHING_THERE = -11, PLACE_OUTSIDE = -12, UNLIKE = -13, SIZE_BELOW = -14;
    private static final int FAULT_AHEAD = -100;

    private static final int MOST_HOUSES = 7, MOST_TEXTS = 6, SHEETS = 4, MOST_ITEMS = 40;
    private static final int MOST_BYTES = 160, MOST_SEEDS = 20, MOST_ODDS = 10;
    private static final int LAST_MINUTE = 999, LAST_PLACE = 99, LAST_KIND = 5;
    /** Above every minute and every purse that there can be. */
    private static final int FAR_OFF = 1000000;

    /** What bag() sets, by its numbers; THICK is that of SORT 0, the others follow it. */
    private static final int BAG = 0, HEAP = 1, BEGIN = 2, PACE = 3, CROSS = 4, RAIN = 5, THICK = 6;
    private static final int TERMS = 10;
    private static final int[] LEAST_TERMS = {4, 0, 0, 1, 0, 0, 1, 1, 1, 1};
    private static final int[] MOST_TERMS = {60, 99, 999, 9, 9, 9, 9, 9, 9, 9};
    private static final int[] FIRST_TERMS = {12, 0, 0, 4, 1, 0, 1, 2, 3, 4};

    /** What set() sets, by its numbers. */
    private static final int NUMBER = 0, PLACE = 1, SIDE = 2, SORT = 3, FACTS = 4;
    private static final int[] MOST_FACTS = {9, 99, 1, 3};

    private static final String FIRST_TEXT = "by 30 + house * 5 ; rings 5 < late ; tips 20 - late ;";

    private final Door[] doors = new Door[MOST_HOUSES];
    private int houseCount = 0;
    private final int[] list = new int[MOST_HOUSES];
    private final int[] terms = FIRST_TERMS.clone();

    private final Reader reader = new Reader();
    private final Rule[] rules = new Rule[MOST_TEXTS];
    private int ruleCount = 0;
    private int ruleNow = 0;

    private final Sheet[] sheets = new Sheet[SHEETS];

    private final Walk walk = new Walk();
    private final int[] arrivals = new int[MOST_HOUSES];
    private final int[] otherList = new int[MOST_HOUSES];
    private final Search soonest = new Search(0);
    private final Search richest = new Search(1);

    private int keptCount = NONE;
    private int keptRule = 0;
    private final int[] keptList = new int[MOST_HOUSES];
    private final int[] keptTerms = new int[TERMS];
    private final int[] keptFacts = new int[MOST_HOUSES * FACTS];

    public PapersEarly() {
        for (int i = 0; i < SHEETS; i++) {
            sheets[i] = new Sheet();
        }
        for (int i = 0; i < FIRST_TEXT.length(); i++) {
            reader.append(FIRST_TEXT.charAt(i));
        }
        rules[0] = reader.read();
        ruleCount = 1;
        reader.clear();
    }

    // ---- houses, the list

    public int house(int kind, int what, int where) {
        if (kind < 0 || kind > LAST_KIND || what < 0 || where < 0) {
            return BAD;
        }
        int number = what / 10;
        int sort = what % 10;
        int place = where / 10;
        int side = where % 10;
        if (!isFact(NUMBER, number) || !isFact(SORT, sort) || !isFact(PLACE, place) || !isFact(SIDE, side)) {
            return BAD;
        }
        if (houseCount >= MOST_HOUSES) {
            return FULL;
        }
        int index = houseCount;
        Door door = newDoor(kind, index);
        door.change(NUMBER, number);
        door.change(SORT, sort);
        door.change(PLACE, place);
        door.change(SIDE, side);
        doors[index] = door;
        list[index] = index;
        houseCount = index + 1;
        forgetBest();
        return index;
    }

    public int set(int house, int what, int v) {
        Door door = doorOf(house);
        if (door == null || !isFact(what, v)) {
            return BAD;
        }
        int was = door.fact(what);
        door.change(what, v);
        forgetBest();
        return was;
    }

    public int bag(int what, int v) {
        if (what < 0 || what >= TERMS || v < LEAST_TERMS[what] || v > MOST_TERMS[what]) {
            return BAD;
        }
        int was = terms[what];
        terms[what] = v;
        forgetBest();
        return was;
    }

    public int told(int house, int what) {
        Door door = doorOf(house);
        if (door == null) {
            return BAD;
        }
        switch (what) {
            case NUMBER:
            case PLACE:
            case SIDE:
            case SORT:
                return door.fact(what);
            case 4:
                return door.kind();
            case 5:
                return placeInList(house);
            case 6:
                return door.takes(thickOf(terms, door.sort), terms[RAIN]);
            case 7:
                return rules[ruleNow].wantedBy(door, terms[RAIN]);
            default:
                return BAD;
        }
    }

    public int swap(int i, int j) {
        if (!isHouse(i) || !isHouse(j)) {
            return BAD;
        }
        int moved = list[i];
        list[i] = list[j];
        list[j] = moved;
        return list[i];
    }

    // ---- texts

    public int feed(int letter) {
        if (letter < 0 || letter > 255) {
            return BAD;
        }
        if (reader.size >= MOST_BYTES) {
            return FULL;
        }
        reader.append(letter);
        return reader.size;
    }

    public int text() {
        if (ruleCount >= MOST_TEXTS) {
            return FULL;
        }
        Rule read = reader.read();
        reader.clear();
        if (read == null) {
            return FAULT_AHEAD - reader.start;
        }
        int number = ruleCount;
        rules[number] = read;
        ruleCount = number + 1;
        return number;
    }

    public int force(int text) {
        if (text < 0 || text >= ruleCount) {
            return BAD;
        }
        int was = ruleNow;
        ruleNow = text;
        forgetBest();
        return was;
    }

    // ---- rounds

    public int at(int house, int what) {
        Door door = doorOf(house);
        if (door == null || what < 0 || what > 2) {
            return BAD;
        }
        goList();
        if (what == 0) {
            return arrivals[house];
        }
        return what == 1 ? lateness(door) : giftOf(door);
    }

    public int round(int what) {
        int ends = goList();
        switch (what) {
            case 0:
                return ends;
            case 1:
                return walk.backs;
            case 2:
                return lateCount();
            case 3:
                return ringing();
            case 4:
                return purseWithout(ringing());
            default:
                return BAD;
        }
    }

    public int shifted(int k, int what) {
        if (k < 0 || k > houseCount || what < 0 || what > 2) {
            return BAD;
        }
        int wrong = wrongSorts(k);
        if (what == 0) {
            return wrong;
        }
        goList();
        int rung = wrong | ringing();
        return what == 1 ? rung : purseWithout(rung);
    }

    public int where(int sheet, int what) {
        if (what < 0 || what > 1) {
            return BAD;
        }
        int refusal = refusalOfTelling(sheet);
        if (refusal != 0) {
            return refusal;
        }
        Sheet told = sheets[sheet];
        goList();
        int ringing = ringing();
        int many = 0;
        int least = NONE;
        for (int k = 0; k <= houseCount; k++) {
            if (tellsBits(told, ringing | wrongSorts(k))) {
                many++;
                least = least == NONE ? k : least;
            }
        }
        return what == 0 ? many : least;
    }

    // ---- what would be better

    public int best(int sort, int place) {
        if (sort < 0 || sort > 1 || place < NONE || place >= houseCount) {
            return BAD;
        }
        Search found = searchOf(sort);
        found.find(doors, houseCount, terms, rules[ruleNow]);
        if (place == NONE) {
            return sort == 0 ? -found.score : found.score;
        }
        return found.order[place];
    }

    public int arrange(int sort) {
        if (sort < 0 || sort > 1) {
            return BAD;
        }
        Search found = searchOf(sort);
        found.find(doors, houseCount, terms, rules[ruleNow]);
        System.arraycopy(found.order, 0, list, 0, houseCount);
        return goList();
    }

    public int ways(int what) {
        if (what < 0 || what > 1) {
            return BAD;
        }
        for (int h = 0; h < houseCount; h++) {
            int rank = wayRank(h, what);
            int to = h;
            while (to > 0 && wayRank(otherList[to - 1], what) > rank) {
                otherList[to] = otherList[to - 1];
                to--;
            }
            otherList[to] = h;
        }
        return goThrough(otherList, 0, houseCount);
    }

    public int begin() {
        goList();
        int latest = LAST_MINUTE;
        for (int h = 0; h < houseCount; h++) {
            int after = arrivals[h] - terms[BEGIN];
            latest = Math.min(latest, rules[ruleNow].wantedBy(doors[h], terms[RAIN]) - after);
        }
        return latest < 0 ? NONE : latest;
    }

    public int heap(int what) {
        if (what < 0 || what > 1) {
            return BAD;
        }
        int was = terms[HEAP];
        int bestHeap = 0;
        int bestEnds = FAR_OFF;
        for (int heap = 0; heap <= LAST_PLACE; heap++) {
            terms[HEAP] = heap;
            int ends = goList();
            if (ends < bestEnds) {
                bestEnds = ends;
                bestHeap = heap;
            }
        }
        terms[HEAP] = was;
        return what == 0 ? bestHeap : bestEnds;
    }

    public int split(int what) {
        if (what < 0 || what > 1) {
            return BAD;
        }
        int bestPlace = 0;
        int bestEnds = FAR_OFF;
        for (int k = 0; k <= houseCount; k++) {
            int ends = Math.max(goThrough(list, 0, k), goThrough(list, k, houseCount));
            if (ends < bestEnds) {
                bestEnds = ends;
                bestPlace = k;
            }
        }
        return what == 0 ? bestPlace : bestEnds;
    }

    public int drop(int house) {
        return isHouse(house) ? goWithout(1 << house) : BAD;
    }

    public int away(int set, int what) {
        if (set < 0 || set >= 1 << houseCount || what < 0 || what > 1) {
            return BAD;
        }
        return what == 0 ? goWithout(set) : thickTogether(set);
    }

    public int judge(int sheet) {
        int refusal = refusalOfTelling(sheet);
        if (refusal != 0) {
            return refusal;
        }
        Sheet told = sheets[sheet];
        goList();
        for (int i = 0; i < houseCount; i++) {
            if (told.item(i) != arrivals[list[i]]) {
                return i;
            }
        }
        return NONE;
    }

    public int thrownBy(int seed, int odds) {
        return odds < 0 || odds > MOST_ODDS ? BAD : lyingRight(seed, odds);
    }

    public long chance(int seed, int n, int odds, int part) {
        if (n < 1 || n > MOST_SEEDS || odds < 0 || odds > MOST_ODDS || part < 0 || part > 1) {
            return NO;
        }
        int all = 0;
        for (int i = 0; i < n; i++) {
            if (lyingRight(seed + i, odds) == houseCount) {
                all++;
            }
        }
        return (part == 0 ? all : n) / commonDivisor(all, n);
    }

    public int image() {
        keptCount = houseCount;
        keptRule = ruleNow;
        System.arraycopy(list, 0, keptList, 0, MOST_HOUSES);
        System.arraycopy(terms, 0, keptTerms, 0, TERMS);
        for (int h = 0; h < houseCount; h++) {
            for (int what = 0; what < FACTS; what++) {
                keptFacts[h * FACTS + what] = doors[h].fact(what);
            }
        }
        return houseCount;
    }

    public int back() {
        if (keptCount == NONE) {
            return STATE;
        }
        houseCount = keptCount;
        ruleNow = keptRule;
        System.arraycopy(keptList, 0, list, 0, MOST_HOUSES);
        System.arraycopy(keptTerms, 0, terms, 0, TERMS);
        for (int h = 0; h < houseCount; h++) {
            for (int what = 0; what < FACTS; what++) {
                doors[h].change(what, keptFacts[h * FACTS + what]);
            }
        }
        forgetBest();
        return houseCount;
    }

    public int count(int what) {
        switch (what) {
            case 0:
                return houseCount;
            case 1:
                return ruleCount;
            case 2:
                return reader.size;
            case 3:
                return ruleNow;
            default:
                return what >= 4 && what < 4 + TERMS ? terms[what - 4] : BAD;
        }
    }

    // ---- the host

    public int sheet(int sheet, int sort, int n) {
        if (!isSheet(sheet) || sort < Sheet.MISSING || sort > Sheet.INTS) {
            return BAD;
        }
        if (sort == Sheet.MISSING) {
            sheets[sheet].become(Sheet.MISSING, 0);
            return 1;
        }
        if (n > MOST_ITEMS) {
            return BAD;
        }
        if (n < 0) {
            return SIZE_BELOW;
        }
        sheets[sheet].become(sort, n);
        return 1;
    }

    public int cell(int sheet, int i, int v) {
        if (!isSheet(sheet)) {
            return BAD;
        }
        Sheet row = sheets[sheet];
        if (row.isMissing()) {
            return NOTHING_THERE;
        }
        if (!row.has(i, 1)) {
            return PLACE_OUTSIDE;
        }
        row.put(i, v);
        return 1;
    }

    public int copy(int sheet, int i, int other, int j, int n) {
        if (!isSheet(sheet) || !isSheet(other)) {
            return BAD;
        }
        Sheet from = sheets[sheet];
        Sheet to = sheets[other];
        if (from.isMissing() || to.isMissing()) {
            return NOTHING_THERE;
        }
        if (from.sort != to.sort) {
            return UNLIKE;
        }
        if (!from.has(i, n) || !to.has(j, n)) {
            return PLACE_OUTSIDE;
        }
        System.arraycopy(from.items, i, to.items, j, n);
        return n;
    }

    public int houses(int sheet, int sort, int from, int n) {
        if (!isSheet(sheet) || sort < 0 || sort > Sheet.INTS || n < 0 || n > MOST_HOUSES) {
            return BAD;
        }
        Sheet row = sheets[sheet];
        if (row.isMissing()) {
            return NOTHING_THERE;
        }
        if (row.sort != sort) {
            return UNLIKE;
        }
        int came = 0;
        for (int k = 0; k < n; k++) {
            int i = from + 3 * k;
            if (!row.has(i, 3)) {
                return PLACE_OUTSIDE;
            }
            if (house(row.item(i), row.item(i + 1), row.item(i + 2)) >= 0) {
                came++;
            }
        }
        return came;
    }

    public int taken(int house, int k) {
        if (k < 0 || k > LAST_KIND) {
            return BAD;
        }
        Door door = doorOf(house);
        if (door == null) {
            return NOTHING_THERE;
        }
        return isOfKind(door, k) ? door.number : UNLIKE;
    }

    // ---- houses and their list, inside

    private boolean isHouse(int house) {
        return house >= 0 && house < houseCount;
    }

    private Door doorOf(int house) {
        return isHouse(house) ? doors[house] : null;
    }

    private static boolean isFact(int what, int v) {
        return what >= 0 && what < FACTS && v >= 0 && v <= MOST_FACTS[what];
    }

    private static Door newDoor(int kind, int index) {
        switch (kind) {
            case 1:
                return new Gate(index);
            case 2:
                return new Dog(index);
            case 3:
                return new Steps(index);
            case 4:
                return new Bell(index);
            case 5:
                return new Slot(index);
            default:
                return new Door(index);
        }
    }

    private static boolean isOfKind(Door door, int kind) {
        switch (kind) {
            case 0:
                return true;
            case 1:
                return door instanceof Gate;
            case 2:
                return door instanceof Dog;
            case 3:
                return door instanceof Steps;
            case 4:
                return door instanceof Bell;
            case 5:
                return door instanceof Slot;
            default:
                return false;
        }
    }

    private static int thickOf(int[] terms, int sort) {
        int what = THICK + sort;
        return what < THICK || what >= terms.length ? 0 : terms[what];
    }

    private int placeInList(int house) {
        for (int i = 0; i < houseCount; i++) {
            if (list[i] == house) {
                return i;
            }
        }
        return NONE;
    }

    private int thickTogether(int set) {
        int together = 0;
        for (int h = 0; h < houseCount; h++) {
            if ((set >> h & 1) != 0) {
                together += thickOf(terms, doors[h].sort);
            }
        }
        return together;
    }

    /** BEST stands till something changes by which it could be another one: THE LIST is not such. */
    private void forgetBest() {
        soonest.known = false;
        richest.known = false;
    }

    private Search searchOf(int sort) {
        return sort == 0 ? soonest : richest;
    }

    // ---- rounds, inside

    private int goList() {
        return goThrough(list, 0, houseCount);
    }

    /** Walks the houses at places from .. to - 1 of an order; notes their arrivals, answers ENDS. */
    private int goThrough(int[] order, int from, int to) {
        walk.start(terms);
        for (int i = from; i < to; i++) {
            Door door = doorOf(order[i]);
            if (door != null) {
                arrivals[door.index] = walk.visit(door, terms);
            }
        }
        return walk.minute;
    }

    private int goWithout(int set) {
        int left = 0;
        for (int i = 0; i < houseCount; i++) {
            if ((set >> list[i] & 1) == 0) {
                otherList[left] = list[i];
                left++;
            }
        }
        return goThrough(otherList, 0, left);
    }

    /** SIDE 1 comes behind all of SIDE 0, and the other way round, where one goes by sides. */
    private int wayRank(int house, int what) {
        Door door = doorOf(house);
        if (door == null) {
            return 0;
        }
        return what == 0 && door.side == 1 ? 2 * (LAST_PLACE + 1) - door.place : door.place;
    }

    private int lateness(Door door) {
        return Math.max(0, arrivals[door.index] - rules[ruleNow].wantedBy(door, terms[RAIN]));
    }

    private int giftOf(Door door) {
        return rules[ruleNow].gift(door, lateness(door), terms[RAIN]);
    }

    private int lateCount() {
        int late = 0;
        for (int h = 0; h < houseCount; h++) {
            if (lateness(doors[h]) > 0) {
                late++;
            }
        }
        return late;
    }

    /** Who rings up (bits) for being late, in the round that was walked last. */
    private int ringing() {
        int bits = 0;
        for (int h = 0; h < houseCount; h++) {
            if (rules[ruleNow].rings(doors[h], lateness(doors[h]), terms[RAIN])) {
                bits |= 1 << h;
            }
        }
        return bits;
    }

    private int purseWithout(int bits) {
        int purse = 0;
        for (int h = 0; h < houseCount; h++) {
            if ((bits >> h & 1) == 0) {
                purse += giftOf(doors[h]);
            }
        }
        return purse;
    }

    private int wrongSorts(int k) {
        int bits = 0;
        for (int i = Math.max(1, k); i < houseCount; i++) {
            if (doors[list[i]].sort != doors[list[i - 1]].sort) {
                bits |= 1 << list[i];
            }
        }
        return bits;
    }

    private boolean tellsBits(Sheet told, int bits) {
        for (int h = 0; h < houseCount; h++) {
            if (told.item(h) != (bits >> h & 1)) {
                return false;
            }
        }
        return true;
    }

    private int lyingRight(int seed, int odds) {
        int z = seed;
        int right = 0;
        for (int i = 0; i < houseCount; i++) {
            z = z * 1103515245 + 12345;
            if ((z >>> 10) % 10 < odds) {
                right++;
            }
        }
        return right;
    }

    /** The greatest number that divides both; b is 1 at least. */
    private static int commonDivisor(int a, int b) {
        for (int d = b; d > 1; d--) {
            if (a % d == 0 && b % d == 0) {
                return d;
            }
        }
        return 1;
    }

    private static boolean isSheet(int sheet) {
        return sheet >= 0 && sheet < SHEETS;
    }

    /** Why a sheet can't tell one number of each house; 0 if it can. */
    private int refusalOfTelling(int sheet) {
        if (!isSheet(sheet)) {
            return BAD;
        }
        if (sheets[sheet].isMissing()) {
            return NOTHING_THERE;
        }
        return sheets[sheet].size != houseCount ? BAD : 0;
    }

    /** A house with its door; the classes under this one are the other kinds. */
    private static class Door {
        final int index;
        int number = 0;
        int place = 0;
        int side = 0;
        int sort = 0;

        Door(int index) {
            this.index = index;
        }

        int kind() {
            return 0;
        }

        int takes(int thick, int rain) {
            return 1;
        }

        /** TIPS before they are brought up to 0. */
        int gives(int base, int late, int rain) {
            return base - late;
        }

        final int fact(int what) {
            switch (what) {
                case NUMBER:
                    return number;
                case PLACE:
                    return place;
                case SIDE:
                    return side;
                default:
                    return sort;
            }
        }

        final void change(int what, int v) {
            switch (what) {
                case NUMBER:
                    number = v;
                    break;
                case PLACE:
                    place = v;
                    break;
                case SIDE:
                    side = v;
                    break;
                default:
                    sort = v;
                    break;
            }
        }
    }

    private static class Gate extends Door {
        Gate(int index) {
            super(index);
        }

        int kind() {
            return 1;
        }

        int takes(int thick, int rain) {
            return super.takes(thick, rain) + number;
        }
    }

    private static class Dog extends Door {
        Dog(int index) {
            super(index);
        }

        int kind() {
            return 2;
        }

        int takes(int thick, int rain) {
            return super.takes(thick, rain) + (number % 2 == 1 ? 3 : 0);
        }

        int gives(int base, int late, int rain) {
            return super.gives(base, late, rain) / 2;
        }
    }

    private static final class Steps extends Gate {
        Steps(int index) {
            super(index);
        }

        int kind() {
            return 3;
        }

        int takes(int thick, int rain) {
            return super.takes(thick, rain) + thick;
        }

        int gives(int base, int late, int rain) {
            return super.gives(base, late, rain) + number;
        }
    }

    private static final class Bell extends Dog {
        Bell(int index) {
            super(index);
        }

        int kind() {
            return 4;
        }

        int takes(int thick, int rain) {
            return 2 * super.takes(thick, rain);
        }

        int gives(int base, int late, int rain) {
            return super.gives(base, late, rain) + (late == 0 ? 2 : 0);
        }
    }

    private static final class Slot extends Gate {
        Slot(int index) {
            super(index);
        }

        int kind() {
            return 5;
        }

        int takes(int thick, int rain) {
            return super.takes(thick, rain) + (rain > 0 ? 1 : 0);
        }

        int gives(int base, int late, int rain) {
            return super.gives(base, late, rain) - rain;
        }
    }

    /** Where one stands while a round goes on. */
    private static final class Walk {
        int minute = 0;
        int backs = 0;
        private int place = 0;
        private int side = 0;
        private int room = 0;
        private boolean atHeap = true;

        void start(int[] terms) {
            minute = terms[BEGIN];
            backs = 0;
            side = 0;
            fill(terms);
        }

        void follow(Walk other) {
            minute = other.minute;
            backs = other.backs;
            place = other.place;
            side = other.side;
            room = other.room;
            atHeap = other.atHeap;
        }

        /** Goes to a door and on from it; answers AT. */
        int visit(Door door, int[] terms) {
            int thick = thickOf(terms, door.sort);
            // Papers are taken in the list's order, so the bag has none for this house just when
            // what it holds for those since the heap leaves no room for this paper too.
            if (!atHeap && thick > room) {
                go(terms[HEAP], terms);
                backs++;
                fill(terms);
            }
            room -= thick;
            atHeap = false;
            go(door.place, terms);
            if (side != door.side) {
                minute += terms[CROSS];
                side = door.side;
            }
            int reached = minute;
            minute += door.takes(thick, terms[RAIN]);
            return reached;
        }

        private void fill(int[] terms) {
            place = terms[HEAP];
            room = terms[BAG];
            atHeap = true;
        }

        private void go(int to, int[] terms) {
            int far = Math.abs(to - place);
            int pace = Math.max(1, terms[PACE]);
            minute += (far + pace - 1) / pace;
            place = to;
        }
    }

    /** BEST of one sort: an order is grown house by house, and left where it can't be better. */
    private static final class Search {
        /** TIPS are at most 99 and a NUMBER less the minutes: who waits so long gives nothing. */
        private static final int LATES = 108;

        final int[] order = new int[MOST_HOUSES];
        int score = 0;
        boolean known = false;

        private final int sort;
        private final Walk[] walks = new Walk[MOST_HOUSES + 1];
        private final int[] trial = new int[MOST_HOUSES];
        private final int[] wants = new int[MOST_HOUSES];
        private final int[] gifts;
        private final int[] hopes;
        private Door[] doors = new Door[0];
        private int houseCount = 0;
        private int[] terms = new int[TERMS];

        Search(int sort) {
            this.sort = sort;
            for (int i = 0; i <= MOST_HOUSES; i++) {
                walks[i] = new Walk();
            }
            int size = sort == 0 ? 0 : MOST_HOUSES * LATES;
            gifts = new int[size];
            hopes = new int[size];
        }

        /** score is then PURSE, or ENDS below 0, so that more is better for both. */
        void find(Door[] street, int many, int[] streetTerms, Rule rule) {
            if (known) {
                return;
            }
            doors = street;
            houseCount = Math.min(many, MOST_HOUSES);
            terms = streetTerms;
            if (sort == 1) {
                fillGifts(rule);
            }
            score = -FAR_OFF;
            walks[0].start(terms);
            grow(0, 0, 0);
            known = true;
        }

        private void fillGifts(Rule rule) {
            int rain = terms[RAIN];
            for (int h = 0; h < houseCount; h++) {
                Door door = doors[h];
                wants[h] = rule.wantedBy(door, rain);
                int hope = 0;
                for (int late = LATES - 1; late >= 0; late--) {
                    int gift = rule.rings(door, late, rain) ? 0 : rule.gift(door, late, rain);
                    hope = Math.max(hope, gift);
                    gifts[h * LATES + late] = gift;
                    hopes[h * LATES + late] = hope;
                }
            }
        }

        /** Orders are tried the first ones first, so a like one that comes later is not taken. */
        private void grow(int depth, int used, int purse) {
            int hope = hopeOf(walks[depth].minute, used, purse);
            if (hope <= score) {
                return;
            }
            if (depth >= houseCount) {
                score = hope;
                System.arraycopy(trial, 0, order, 0, houseCount);
                return;
            }
            for (int h = 0; h < houseCount; h++) {
                if ((used >> h & 1) == 0) {
                    goOn(depth, used, purse, h);
                }
            }
        }

        private void goOn(int depth, int used, int purse, int house) {
            Walk next = walks[depth + 1];
            next.follow(walks[depth]);
            int reached = next.visit(doors[house], terms);
            trial[depth] = house;
            grow(depth + 1, used | 1 << house, purse + worth(gifts, house, reached));
        }

        /** No order that begins so has a score above this; with all houses used it is the score. */
        private int hopeOf(int minute, int used, int purse) {
            int ends = minute;
            int most = purse;
            for (int h = 0; h < houseCount; h++) {
                if ((used >> h & 1) == 0) {
                    ends += doors[h].takes(thickOf(terms, doors[h].sort), terms[RAIN]);
                    most += worth(hopes, h, minute);
                }
            }
            return sort == 0 ? -ends : most;
        }

        private int worth(int[] row, int house, int minute) {
            int late = Math.max(0, minute - wants[house]);
            int i = house * LATES + late;
            return late >= LATES || i >= row.length ? 0 : row[i];
        }
    }

    /** A TEXT, as a row of steps on a stack: a step's lowest bits say which, the others a number. */
    private static final class Rule {
        private static final int LAST_TIP = 99;
        /** At each of six depths five signs wait at most for what stands behind them. */
        private static final int STACK = 32;

        private final int[] code;
        private final int ringsFrom;
        private final int tipsFrom;
        private final int[] stack = new int[STACK];

        Rule(int[] code, int ringsFrom, int tipsFrom) {
            this.code = code;
            this.ringsFrom = ringsFrom;
            this.tipsFrom = tipsFrom;
        }

        int wantedBy(Door door, int rain) {
            return within(answer(0, ringsFrom, door, 0, rain), LAST_MINUTE);
        }

        boolean rings(Door door, int late, int rain) {
            return answer(ringsFrom, tipsFrom, door, late, rain) != 0;
        }

        int gift(Door door, int late, int rain) {
            int base = within(answer(tipsFrom, code.length, door, late, rain), LAST_TIP);
            return Math.max(0, door.gives(base, late, rain));
        }

        private static int within(int v, int most) {
            return Math.max(0, Math.min(most, v));
        }

        private int answer(int from, int to, Door door, int late, int rain) {
            int top = 0;
            for (int i = from; i < to; i++) {
                int step = code[i] & Reader.STEP_MASK;
                if (step == Reader.NOT || step == Reader.NEGATE) {
                    if (top >= 1) {
                        int v = stack[top - 1];
                        stack[top - 1] = step == Reader.NEGATE ? -v : bit(v == 0);
                    }
                } else if (Reader.isJoint(step)) {
                    if (top >= 2) {
                        top--;
                        stack[top - 1] = joined(step, stack[top - 1], stack[top]);
                    }
                } else if (top < STACK) {
                    stack[top] = step == Reader.DIGITS ? code[i] >> Reader.STEP_BITS : named(step, door, late, rain);
                    top++;
                }
            }
            return stack[0];
        }

        private static int bit(boolean holds) {
            return holds ? 1 : 0;
        }

        private static int joined(int step, int a, int b) {
            switch (step) {
                case Reader.OR:
                    return bit(a != 0 || b != 0);
                case Reader.AND:
                    return bit(a != 0 && b != 0);
                case '<':
                    return bit(a < b);
                case '=':
                    return bit(a == b);
                case '+':
                    return a + b;
                case '-':
                    return a - b;
                default:
                    return a * b;
            }
        }

        private static int named(int name, Door door, int late, int rain) {
            switch (name) {
                case Reader.OF_PLACE:
                    return door.place;
                case Reader.OF_SIDE:
                    return door.side;
                case Reader.OF_SORT:
                    return door.sort;
                case Reader.OF_LATE:
                    return late;
                case Reader.OF_RAIN:
                    return rain;
                default:
                    return door.index;
            }
        }
    }

    /** THE TAPE, and how a TEXT is read from it. */
    private static final class Reader {
        /** Kinds of tokens; a sign's is its own byte. Those of what counts are steps of a rule too. */
        static final int END = 0, WRONG = 1, DIGITS = 2, BY = 3, RINGS = 4, TIPS = 5;
        static final int OR = 6, AND = 7, NOT = 8, NEGATE = 9;
        static final int OF_PLACE = 10, OF_SIDE = 11, OF_SORT = 12, OF_LATE = 13, OF_RAIN = 14, OF_HOUSE = 15;
        static final int STEP_BITS = 6, STEP_MASK = 63;

        private static final int MOST_DIGITS = 4, MOST_OPEN = 5;

        int size = 0;
        /** The place of the token that is looked at: the FAULT, when nothing was read. */
        int start = 0;

        private final int[] tape = new int[MOST_BYTES];
        private final int[] code = new int[MOST_BYTES];
        private int codeSize = 0;
        private int spot = 0;
        private int kind = END;
        private int value = 0;

        static boolean isJoint(int step) {
            return step == OR || step == AND || step == '<' || step == '='
                || step == '+' || step == '-' || step == '*';
        }

        void append(int letter) {
            if (size < MOST_BYTES) {
                tape[size] = letter;
                size++;
            }
        }

        void clear() {
            size = 0;
        }

        /** A rule; null by a FAULT. */
        Rule read() {
            spot = 0;
            codeSize = 0;
            advance();
            if (!part(BY)) {
                return null;
            }
            int ringsFrom = codeSize;
            if (!part(RINGS)) {
                return null;
            }
            int tipsFrom = codeSize;
            if (!part(TIPS) || kind != END) {
                return null;
            }
            return new Rule(Arrays.copyOf(code, codeSize), ringsFrom, tipsFrom);
        }

        // Each of these reads what it is named for and answers whether it stood there; if not, the
        // token that is looked at is the one that can't stand. open: how many ( not - are open.

        private boolean part(int key) {
            return passed(key) && either(0) && passed(';');
        }

        private boolean either(int open) {
            boolean stands = both(open);
            for (int i = 0; i < MOST_BYTES && stands && kind == OR; i++) {
                advance();
                stands = both(open) && emit(OR);
            }
            return stands;
        }

        private boolean both(int open) {
            boolean stands = negated(open);
            for (int i = 0; i < MOST_BYTES && stands && kind == AND; i++) {
                advance();
                stands = negated(open) && emit(AND);
            }
            return stands;
        }

        private boolean negated(int open) {
            if (kind != NOT) {
                return compared(open);
            }
            return open < MOST_OPEN && passed(NOT) && behindNot(open + 1);
        }

        private boolean behindNot(int open) {
            return negated(open) && emit(NOT);
        }

        private boolean compared(int open) {
            if (!sum(open)) {
                return false;
            }
            int sign = kind;
            if (sign != '<' && sign != '=') {
                return true;
            }
            advance();
            return sum(open) && emit(sign);
        }

        private boolean sum(int open) {
            boolean stands = term(open);
            for (int i = 0; i < MOST_BYTES && stands && (kind == '+' || kind == '-'); i++) {
                int sign = kind;
                advance();
                stands = term(open) && emit(sign);
            }
            return stands;
        }

        private boolean term(int open) {
            boolean stands = one(open);
            for (int i = 0; i < MOST_BYTES && stands && kind == '*'; i++) {
                advance();
                stands = one(open) && emit('*');
            }
            return stands;
        }

        private boolean one(int open) {
            if (kind == DIGITS) {
                emit(DIGITS + (value << STEP_BITS));
                return passed(DIGITS);
            }
            if (kind >= OF_PLACE && kind <= OF_HOUSE) {
                emit(kind);
                return passed(kind);
            }
            if (kind != '-' && kind != '(' || open >= MOST_OPEN) {
                return false;
            }
            if (passed('-')) {
                return behindMinus(open + 1);
            }
            return passed('(') && either(open + 1) && passed(')');
        }

        private boolean behindMinus(int open) {
            return one(open) && emit(NEGATE);
        }

        private boolean emit(int step) {
            if (codeSize < MOST_BYTES) {
                code[codeSize] = step;
                codeSize++;
            }
            return true;
        }

        private boolean passed(int wanted) {
            if (kind != wanted) {
                return false;
            }
            advance();
            return true;
        }

        /** Looks at the next token. */
        private void advance() {
            while (spot < size && (tape[spot] == 32 || tape[spot] == 10)) {
                spot++;
            }
            start = spot;
            if (spot >= size) {
                kind = END;
            } else if (isLetter(tape[spot])) {
                while (spot < size && isLetter(tape[spot])) {
                    spot++;
                }
                kind = wordKind();
            } else if (isDigit(tape[spot])) {
                readDigits();
            } else {
                kind = signKind(tape[spot]);
                spot++;
            }
        }

        private void readDigits() {
            value = 0;
            while (spot < size && isDigit(tape[spot])) {
                value = value * 10 + tape[spot] - '0';
                spot++;
            }
            kind = spot - start > MOST_DIGITS ? WRONG : DIGITS;
        }

        private static boolean isLetter(int letter) {
            return letter >= 'a' && letter <= 'z';
        }

        private static boolean isDigit(int letter) {
            return letter >= '0' && letter <= '9';
        }

        private static int signKind(int letter) {
            boolean sign = letter == '(' || letter == ')' || letter == ';' || letter == '+'
                || letter == '-' || letter == '*' || letter == '<' || letter == '=';
            return sign ? letter : WRONG;
        }

        private int wordKind() {
            if (spells("by")) return BY;
            if (spells("rings")) return RINGS;
            if (spells("tips")) return TIPS;
            if (spells("or")) return OR;
            if (spells("and")) return AND;
            if (spells("not")) return NOT;
            if (spells("place")) return OF_PLACE;
            if (spells("side")) return OF_SIDE;
            if (spells("sort")) return OF_SORT;
            if (spells("late")) return OF_LATE;
            if (spells("rain")) return OF_RAIN;
            return spells("house") ? OF_HOUSE : WRONG;
        }

        private boolean spells(String word) {
            if (spot - start != word.length()) {
                return false;
            }
            for (int i = 0; i < word.length(); i++) {
                if (tape[start + i] != word.charAt(i)) {
                    return false;
                }
            }
            return true;
        }
    }

    /** A row of numbers; one array serves all that the sheet becomes. */
    private static final class Sheet {
        static final int MISSING = -1, BYTES = 0, SHORTS = 1, INTS = 2;

        int sort = MISSING;
        int size = 0;
        final int[] items = new int[MOST_ITEMS];

        boolean isMissing() {
            return sort == MISSING;
        }

        void become(int newSort, int newSize) {
            sort = newSort;
            size = newSize;
            Arrays.fill(items, 0);
        }

        /** Whether many items from i on are all inside; written so that no sum can wrap. */
        boolean has(int i, int many) {
            return i >= 0 && many >= 0 && many <= size && i <= size - many;
        }

        int item(int i) {
            return has(i, 1) ? items[i] : 0;
        }

        void put(int i, int v) {
            if (has(i, 1)) {
                items[i] = sort == BYTES ? (byte) v : sort == SHORTS ? (short) v : v;
            }
        }
    }
}
