/**
 * A stair of stone worn a little by each shoe: what a foot takes is told by texts (LAWS), the use of
 * the stair by STORIES, and the hollows that were measured are led back to those who made them.
 * The words in capitals are the document's.
 */
public final class HollowSteps {
    public static final int BAD = -1, NOT = -2, FULL = -3, BIG = -4, STATE = -5, VOID = -2000000000;

    private static final int NOTHING = -11, OTHER_KIND = -12, NO_PLACE = -13, BELOW_ZERO = -14;
    private static final int STEPS = 40, CELLS = 8, LAWS = 4, STORIES = 10, SHELVES = 6;
    private static final int LAST_YEAR = 2000, MOST_DEEP = 99999, MOST_TOLD = 2000000000;
    private static final int FAULT = -100, MOST_SET = 8;
    // Behind a STEP's CELLS 0 .. 7 its HARD and its RISE are parts that CHANGES can tell, too.
    private static final int HARD_PART = 8, RISE_PART = 9, PARTS = 10;

    private final Step[] steps = new Step[STEPS];
    private int stepCount;
    private final Reader reader = new Reader();
    private final Law[] laws = new Law[LAWS];
    private int lawCount;
    private final Story[] stories = new Story[STORIES];
    private int storyCount;
    private final Shares split = new Shares();
    private final Sets sets = new Sets();
    private final Days days = new Days();
    private final Changes changes = new Changes();
    private final Wears wears = new Wears();
    private final Shelf[] shelves = new Shelf[SHELVES];

    public HollowSteps() {
        for (int i = 0; i < shelves.length; i++) {
            shelves[i] = new Shelf();
        }
    }

    // ---- steps

    public int step(int hw, int year, int rise) {
        int hard = hw / 10;
        int wet = hw % 10;
        if (hw < 0 || !within(hard, 1, 9) || wet > 1 || !isYear(year) || !within(rise, 1, 99)) {
            return BAD;
        }
        if (stepCount >= steps.length) {
            return FULL;
        }
        steps[stepCount] = new Step(stepAt(stepCount - 1), hard, wet, year, rise);
        return stepCount++;
    }

    public int of(int step, int what) {
        Step stone = stepAt(step);
        if (stone == null) {
            return BAD;
        }
        switch (what) {
            case 0: return stone.hard;
            case 1: return stone.wet;
            case 2: return stone.year;
            case 3: return stone.rise;
            case 4: return stone.unlike();
            case 5: return stone.turned ? 1 : 0;
            default: return within(what, 10, 9 + CELLS) ? stone.measure(what - 10) : BAD;
        }
    }

    public int depth(int sc, int v) {
        if (stepOfCell(sc) == null || !within(v, 0, MOST_DEEP)) {
            return BAD;
        }
        return tell(sc, v);
    }

    public int mend(int step, int what, int v) {
        if (stepAt(step) == null || !within(what, 0, 1) || !within(v, 1, what == 0 ? 9 : 99)) {
            return BAD;
        }
        return tell(PARTS * step + (what == 0 ? HARD_PART : RISE_PART), v);
    }

    public int depths(int step, int shelf, int i, int n) {
        Step stone = stepAt(step);
        Shelf from = shelfAt(shelf);
        if (stone == null || from == null || !within(n, 1, CELLS)) {
            return BAD;
        }
        if (from.isEmpty()) {
            return 0;
        }
        if (!from.isRowOfInts()) {
            return OTHER_KIND;
        }
        int came = 0;
        // The place is looked at ahead of i + came, which could else wrap.
        while (came < n && from.hasPlace(i) && from.hasPlace(i + came) && isDepth(from.at(i + came))) {
            stone.become(came, (int) from.at(i + came));
            came++;
        }
        return came;
    }

    public int turn(int step, int year) {
        Step stone = stepAt(step);
        if (stone == null || !isYear(year) || year < stone.year) {
            return BAD;
        }
        int together = stone.together();
        stone.turnOver(year);
        return together;
    }

    public int older(int step) {
        Step stone = stepAt(step);
        if (stone == null) {
            return BAD;
        }
        return stone.turned ? stone.belowTogether() : STATE;
    }

    // ---- laws, stories

    public int feed(int n, int v) {
        if (!within(n, 1, 4)) {
            return BAD;
        }
        return reader.takeIn(n, v) ? reader.length : FULL;
    }

    public int law() {
        if (lawCount >= laws.length) {
            return FULL;
        }
        Law read = reader.read();
        int fault = reader.place;
        reader.length = 0;
        if (read == null) {
            return FAULT - fault;
        }
        laws[lawCount] = read;
        return lawCount++;
    }

    public int takes(int law, int sc, int pd) {
        Law by = lawAt(law);
        Step stone = stepOfCell(sc);
        int down = pd / 100 % 10;
        int abreast = pd % 10;
        if (by == null || stone == null || !within(pd, 0, 7999) || down > 1 || abreast > 1) {
            return BAD;
        }
        return by.takenAt(stone, sc % PARTS, pd / 1000, down, pd / 10 % 10, abreast);
    }

    public int story(int ft, int ud, int ps) {
        int first = ft / 10000;
        int last = ft % 10000;
        int abreast = ps % 10;
        if (ft < 0 || !isYear(first) || !isYear(last) || last < first || !within(ud, 0, 999999)
                || !within(ps, 0, 799) || abreast > 1) {
            return BAD;
        }
        if (storyCount >= stories.length) {
            return FULL;
        }
        stories[storyCount] = new Story(first, last, ud / 1000, ud % 1000, ps / 100, ps / 10 % 10, abreast);
        return storyCount++;
    }

    public int worn(int law, int sc, int stories) {
        Law by = lawAt(law);
        Step stone = stepOfCell(sc);
        if (by == null || stone == null || !areStories(stories)) {
            return BAD;
        }
        return told(wornBySet(by, stone, sc % PARTS, stories));
    }

    public int led(int law, int sc) {
        Law by = lawAt(law);
        Step stone = stepOfCell(sc);
        if (by == null || stone == null) {
            return BAD;
        }
        int most = NOT;
        long wornMost = 0;
        for (int s = 0; s < storyCount; s++) {
            long worn = wornBySet(by, stone, sc % PARTS, 1 << s);
            if (worn > wornMost) {
                most = s;
                wornMost = worn;
            }
        }
        return most;
    }

    public int share(int law, int step, int story) {
        Law by = lawAt(law);
        Step stone = stepAt(step);
        if (by == null || stone == null || !within(story, 0, storyCount - 1)) {
            return BAD;
        }
        long own = 0;
        long all = 0;
        for (int c = 0; c < CELLS; c++) {
            own += wornBySet(by, stone, c, 1 << story);
            all += wornBySet(by, stone, c, (1 << storyCount) - 1);
        }
        return all <= 0 ? NOT : (int) (own * 1000 / all);
    }

    // ---- shapes

    public int shape(int step, int what) {
        Step stone = stepAt(step);
        if (stone == null) {
            return VOID;
        }
        switch (what) {
            case 0: return stone.hollows();
            case 1: return stone.deepestCell();
            case 2: return stone.tilt();
            default: return VOID;
        }
    }

    public int rail(int step, int t, int what) {
        Step stone = stepAt(step);
        if (stone == null || !within(t, 0, MOST_DEEP) || !within(what, 0, 1)) {
            return BAD;
        }
        int low = stone.shallowFrom(0, 1, t);
        int high = stone.shallowFrom(CELLS - 1, -1, t);
        if (low == 0 && high == 0) {
            return NOT;
        }
        if (what == 1) {
            return low >= high ? 0 : 1;
        }
        return Math.max(low, high);
    }

    // ---- feet, shares

    public int feet(int law, int sc, int pss, int what) {
        Law by = lawAt(law);
        Step stone = stepOfCell(sc);
        int shoe = pss / 10 % 10;
        int last = pss % 10;
        if (by == null || stone == null || !within(pss, 0, 799) || last < shoe || !within(what, 0, 1)) {
            return BAD;
        }
        int cell = sc % PARTS;
        int path = pss / 100;
        int units = stone.measure(cell) * 1000;
        int least = MOST_TOLD;
        int greatest = 0;
        for (int s = shoe; s <= last; s++) {
            int mean = (by.takenAt(stone, cell, path, 0, s, 0) + by.takenAt(stone, cell, path, 1, s, 0)) / 2;
            if (mean == 0) {
                return NOT;
            }
            least = Math.min(least, units / mean);
            greatest = Math.max(greatest, (units + mean - 1) / mean);
        }
        return what == 0 ? least : greatest;
    }

    public int shares(int law, int step, int ps, int what) {
        Law by = lawAt(law);
        Step stone = stepAt(step);
        if (by == null || stone == null || !within(ps, 0, 79) || !within(what, 0, 2)) {
            return BAD;
        }
        split.find(by, stone, ps / 10, ps % 10);
        if (what == 2) {
            return split.off;
        }
        return what == 0 ? split.ups : split.downs;
    }

    public int other(int law, int ps) {
        Law by = lawAt(law);
        if (by == null || !within(ps, 0, 79)) {
            return BAD;
        }
        boolean measured = false;
        int together = 0;
        for (int s = 0; s < stepCount; s++) {
            Step stone = stepAt(s);
            if (stone != null && stone.deepest() > 0) {
                split.find(by, stone, ps / 10, ps % 10);
                together += split.ups - split.downs;
                measured = true;
            }
        }
        return measured ? together : NOT;
    }

    public int renewed(int ss, int year, int what) {
        Step one = ss < 0 ? null : stepAt(ss / 100);
        Step another = ss < 0 ? null : stepAt(ss % 100);
        if (one == null || another == null || !isYear(year) || !within(what, 0, 1)) {
            return BAD;
        }
        int years = year - one.year;
        if (years <= 0) {
            return NOT;
        }
        int yearly = one.deepest() * 1000 / years;
        if (yearly == 0) {
            return NOT;
        }
        return what == 0 ? yearly : year - another.deepest() * 1000 / yearly;
    }

    public int fits(int law, int stories, int slack, int what) {
        Law by = lawAt(law);
        if (by == null || !areStories(stories) || !within(slack, 0, MOST_DEEP) || !within(what, 0, 1)) {
            return BAD;
        }
        if (Integer.bitCount(stories) > MOST_SET) {
            return BIG;
        }
        if (!weighSets(by, stories)) {
            return NOT;
        }
        if (what == 0) {
            return sets.fitting(slack);
        }
        int least = sets.leastFitting(slack);
        return least < 0 ? NOT : spread(least, stories);
    }

    public int best(int law, int stories, int what) {
        Law by = lawAt(law);
        if (by == null || !areStories(stories) || !within(what, 0, 1)) {
            return BAD;
        }
        if (Integer.bitCount(stories) > MOST_SET) {
            return BIG;
        }
        if (!weighSets(by, stories)) {
            return NOT;
        }
        int nearest = sets.nearest();
        return what == 0 ? spread(nearest, stories) : told(sets.offOf(nearest));
    }

    public int next(int law, int one, int other) {
        Law by = lawAt(law);
        if (by == null || !areStories(one) || !areStories(other)) {
            return BAD;
        }
        int most = NOT;
        long mostApart = 0;
        for (int s = 0; s < stepCount; s++) {
            Step stone = stepAt(s);
            if (stone != null && stone.deepest() == 0) {
                long apart = apart(by, stone, one, other);
                if (apart > mostApart) {
                    most = s;
                    mostApart = apart;
                }
            }
        }
        return most;
    }

    public int slipped(int law, int path, int what) {
        Law by = lawAt(law);
        if (by == null || !within(path, 0, CELLS - 1) || !within(what, 0, 1)) {
            return BAD;
        }
        int most = mostUnlike();
        Step stone = stepAt(most);
        if (stone == null) {
            return NOT;
        }
        if (what == 0) {
            return most;
        }
        int taken = by.foot(stone.hard, stone.wet, stone.unlike(), 0, 1, 0, 0);
        int even = by.foot(stone.hard, stone.wet, 0, 0, 1, 0, 0);
        return even == 0 ? 0 : (taken - even) * 1000 / even;
    }

    // ---- the gate

    public int day(int v) {
        if (!within(v, 0, 9999)) {
            return BAD;
        }
        return days.add(v) ? days.length : FULL;
    }

    public int gate(int what) {
        if (!within(what, 0, 1)) {
            return BAD;
        }
        if (days.length == 0) {
            return STATE;
        }
        return what == 0 ? days.mean() : days.middle();
    }

    public int walk(int n, int seed) {
        if (!within(n, 1, 100)) {
            return BAD;
        }
        return days.length == 0 ? STATE : days.walked(n, seed);
    }

    public int undo() {
        if (changes.done == 0) {
            return STATE;
        }
        changes.done--;
        become(changes.placeOf(changes.done), changes.wasOf(changes.done));
        return changes.done;
    }

    public int redo() {
        if (changes.done >= changes.length) {
            return STATE;
        }
        become(changes.placeOf(changes.done), changes.becameOf(changes.done));
        changes.done++;
        return changes.length - changes.done;
    }

    // ---- acts, shelves

    public int body(int kind) {
        if (!Wears.isKind(kind)) {
            return BAD;
        }
        return wears.add(kind) ? wears.length - 1 : FULL;
    }

    public int act(int body, int act, int x) {
        return wears.perform(body, act, x);
    }

    public int trace(int i) {
        return within(i, 0, wears.traced() - 1) ? wears.traceOf(i) : BAD;
    }

    public int keep(int shelf, int body) {
        Shelf on = shelfAt(shelf);
        if (on == null || !within(body, -1, wears.length - 1)) {
            return BAD;
        }
        if (body < 0) {
            on.holdNothing();
        } else {
            on.holdWear(wears.kindOf(body));
        }
        return 1;
    }

    public int row(int shelf, int sort, int n) {
        Shelf on = shelfAt(shelf);
        if (on == null || !Shelf.isSort(sort) || n > Shelf.LONGEST) {
            return BAD;
        }
        if (n < 0) {
            return BELOW_ZERO;
        }
        on.holdRow(sort, n);
        return 1;
    }

    public int put(int shelf, int i, long v) {
        Shelf on = shelfAt(shelf);
        int refusal = refusalAt(on, i);
        if (on == null || refusal != 0) {
            return refusal;
        }
        on.set(i, v);
        return 1;
    }

    public long element(int shelf, int i) {
        Shelf on = shelfAt(shelf);
        if (on == null || refusalAt(on, i) != 0) {
            return Long.MIN_VALUE;
        }
        return on.at(i);
    }

    public int shift(int shelf, int i, int other, int j, int n) {
        Shelf from = shelfAt(shelf);
        Shelf to = shelfAt(other);
        if (from == null || to == null) {
            return BAD;
        }
        if (from.isEmpty() || to.isEmpty()) {
            return NOTHING;
        }
        if (!from.isRow() || !to.isRow() || from.sort != to.sort) {
            return OTHER_KIND;
        }
        if (!from.hasPart(i, n) || !to.hasPart(j, n)) {
            return NO_PLACE;
        }
        System.arraycopy(from.elements, i, to.elements, j, n);
        return n;
    }

    public int taken(int shelf, int k) {
        Shelf on = shelfAt(shelf);
        if (on == null || !Wears.isKind(k)) {
            return BAD;
        }
        if (on.isEmpty()) {
            return NOTHING;
        }
        if (on.isRow() || !Wears.isUnder(on.kind, k)) {
            return OTHER_KIND;
        }
        return on.kind;
    }

    public int count(int what) {
        switch (what) {
            case 0: return stepCount;
            case 1: return lawCount;
            case 2: return storyCount;
            case 3: return reader.length;
            case 4: return days.length;
            case 5: return changes.done;
            case 6: return wears.length;
            case 7: return wears.ran;
            default: return BAD;
        }
    }

    // ---- what the calls share

    private static boolean within(int v, int least, int most) {
        return v >= least && v <= most;
    }

    private static boolean isYear(int v) {
        return within(v, 0, LAST_YEAR);
    }

    private static boolean isDepth(long v) {
        return v >= 0 && v <= MOST_DEEP;
    }

    private static int told(long v) {
        return (int) Math.min(v, MOST_TOLD);
    }

    private Step stepAt(int step) {
        return within(step, 0, stepCount - 1) && step < steps.length ? steps[step] : null;
    }

    private Step stepOfCell(int sc) {
        return sc >= 0 && sc % PARTS < CELLS ? stepAt(sc / PARTS) : null;
    }

    private Law lawAt(int law) {
        return within(law, 0, lawCount - 1) && law < laws.length ? laws[law] : null;
    }

    private Shelf shelfAt(int shelf) {
        return within(shelf, 0, shelves.length - 1) ? shelves[shelf] : null;
    }

    private boolean areStories(int bits) {
        return within(bits, 0, (1 << storyCount) - 1);
    }

    /** A part of a STEP becomes v by telling, which can be UNDONE: what it was. */
    private int tell(int place, int v) {
        int was = become(place, v);
        if (was != v) {
            changes.add(place, was, v);
        }
        return was;
    }

    private int become(int place, int v) {
        Step stone = stepAt(place / PARTS);
        return stone == null ? BAD : stone.become(place % PARTS, v);
    }

    private long wornBySet(Law law, Step step, int cell, int bits) {
        long worn = 0;
        for (int s = 0; s < stories.length; s++) {
            Story story = stories[s];
            if (story != null && (bits >> s & 1) == 1) {
                worn += story.wornOff(law, step, cell);
            }
        }
        return worn;
    }

    /** The greatest difference between two sets of STORIES over a STEP's CELLS. */
    private long apart(Law law, Step step, int one, int other) {
        long most = 0;
        for (int c = 0; c < CELLS; c++) {
            long off = wornBySet(law, step, c, one) - wornBySet(law, step, c, other);
            most = Math.max(most, Math.abs(off));
        }
        return most;
    }

    private int mostUnlike() {
        int most = NOT;
        int unlike = 0;
        for (int s = 0; s < stepCount; s++) {
            Step stone = stepAt(s);
            if (stone != null && stone.unlike() > unlike) {
                most = s;
                unlike = stone.unlike();
            }
        }
        return most;
    }

    /** Holds all sets of told STORIES against all MEASURES; false: there are none. */
    private boolean weighSets(Law law, int bits) {
        boolean measured = false;
        sets.begin();
        for (int s = 0; s < stepCount; s++) {
            Step stone = stepAt(s);
            for (int c = 0; c < CELLS; c++) {
                if (stone != null && stone.measure(c) > 0) {
                    weighCell(law, stone, c, bits);
                    measured = true;
                }
            }
        }
        return measured;
    }

    private void weighCell(Law law, Step step, int cell, int bits) {
        sets.beginCell();
        for (int s = 0; s < stories.length; s++) {
            Story story = stories[s];
            if (story != null && (bits >> s & 1) == 1) {
                sets.addStory(story.wornOff(law, step, cell));
            }
        }
        sets.endCell(step.measure(cell));
    }

    /** A set counted among the told STORIES alone, as bits of all STORIES. */
    private static int spread(int set, int stories) {
        int bits = 0;
        int rest = set;
        for (int s = 0; s < STORIES; s++) {
            if ((stories >> s & 1) == 1) {
                bits |= (rest & 1) << s;
                rest >>= 1;
            }
        }
        return bits;
    }

    private static int refusalAt(Shelf shelf, int i) {
        if (shelf == null) {
            return BAD;
        }
        if (shelf.isEmpty()) {
            return NOTHING;
        }
        if (!shelf.isRow()) {
            return OTHER_KIND;
        }
        return shelf.hasPlace(i) ? 0 : NO_PLACE;
    }

    static final class Step {
        final Step under;
        final int wet;
        int hard;
        int year;
        int rise;
        boolean turned;
        int[] measures = new int[CELLS];
        int[] below = new int[CELLS];

        Step(Step under, int hard, int wet, int year, int rise) {
            this.under = under;
            this.hard = hard;
            this.wet = wet;
            this.year = year;
            this.rise = rise;
        }

        int unlike() {
            return under == null ? 0 : Math.abs(rise - under.rise);
        }

        int measure(int cell) {
            return cell >= 0 && cell < measures.length ? measures[cell] : 0;
        }

        /** A CELL's MEASURE, HARD or RISE becomes v: what it was. */
        int become(int part, int v) {
            int was = 0;
            if (part == HARD_PART) {
                was = hard;
                hard = v;
            } else if (part == RISE_PART) {
                was = rise;
                rise = v;
            } else if (part >= 0 && part < measures.length) {
                was = measures[part];
                measures[part] = v;
            }
            return was;
        }

        void turnOver(int inYear) {
            int[] top = measures;
            measures = below;
            below = top;
            year = inYear;
            turned = true;
        }

        int together() {
            return sumOf(measures, 0, CELLS);
        }

        int belowTogether() {
            return sumOf(below, 0, CELLS);
        }

        int tilt() {
            return sumOf(measures, CELLS / 2, CELLS) - sumOf(measures, 0, CELLS / 2);
        }

        private static int sumOf(int[] row, int from, int to) {
            int sum = 0;
            for (int c = from; c < to && c >= 0 && c < row.length; c++) {
                sum += row[c];
            }
            return sum;
        }

        int deepestCell() {
            int deepest = 0;
            for (int c = 1; c < CELLS; c++) {
                if (measure(c) > measure(deepest)) {
                    deepest = c;
                }
            }
            return deepest;
        }

        int deepest() {
            return measure(deepestCell());
        }

        /** A hollow is counted where its row of like CELLS ends, if the way into the row led down. */
        int hollows() {
            int hollows = 0;
            boolean wentDown = true;
            for (int c = 0; c < CELLS; c++) {
                int after = c + 1 < CELLS ? measure(c + 1) : -1;
                if (after < measure(c) && wentDown) {
                    hollows++;
                }
                if (after != measure(c)) {
                    wentDown = after > measure(c);
                }
            }
            return hollows;
        }

        int shallowFrom(int cell, int way, int t) {
            int cells = 0;
            for (int n = 0; n < CELLS && measure(cell + n * way) < t; n++) {
                cells++;
            }
            return cells;
        }
    }

    /**
     * THE TAPE, and how it is read into a LAW's code. In the code a sign stands behind what it joins
     * (postfix), so that a LAW is worked out later without reading its text again.
     */
    static final class Reader {
        private static final int LONGEST = 120, MOST_OPEN = 6, MOST_DIGITS = 4;
        private static final int LEVELS = 5, COMPARED = 2, NO_LEVEL = -1, NO_NAME = -1, END = -1;

        private final int[] tape = new int[LONGEST];
        // A sign of the text gives two items at most, and the last LINE an end that the text lacks.
        private final int[] code = new int[2 * LONGEST + 1];
        private int codeLength;
        int length;
        int place;

        boolean takeIn(int n, int v) {
            if (n < 0 || n > tape.length - length) {
                return false;
            }
            for (int i = 0; i < n; i++) {
                tape[length] = (v >>> (8 * i)) & 255;
                length++;
            }
            return true;
        }

        /** The LAW on THE TAPE; null: there is a FAULT, at the place where the reading stopped. */
        Law read() {
            place = 0;
            codeLength = 0;
            boolean more = readLine();
            for (int n = 0; n < LONGEST && more && sign() == ';'; n++) {
                place++;
                more = readLine();
            }
            return more && sign() == END ? new Law(code, codeLength) : null;
        }

        private boolean readLine() {
            if (!readLevel(0, 0)) {
                return false;
            }
            if (sign() == '?') {
                place++;
                emit(Law.SIGN + '?');
                if (!readLevel(0, 0)) {
                    return false;
                }
            }
            emit(Law.SIGN + ';');
            return true;
        }

        /** E, A, B, S and P are alike: parts of the next level, joined by signs of their own; B by one at most. */
        private boolean readLevel(int level, int open) {
            if (level >= LEVELS) {
                return readOperand(open);
            }
            if (!readLevel(level + 1, open)) {
                return false;
            }
            int most = level == COMPARED ? 1 : LONGEST;
            for (int n = 0; n < most && levelOf(sign()) == level; n++) {
                int join = sign();
                place++;
                if (!readLevel(level + 1, open)) {
                    return false;
                }
                emit(Law.SIGN + join);
            }
            return true;
        }

        private static int levelOf(int sign) {
            switch (sign) {
                case '|': return 0;
                case '&': return 1;
                case '<': case '=': case '>': return COMPARED;
                case '+': case '-': return 3;
                case '*': case '/': case '%': return 4;
                default: return NO_LEVEL;
            }
        }

        private boolean readOperand(int open) {
            int sign = sign();
            int name = nameOf(sign);
            if (name != NO_NAME) {
                place++;
                emit(Law.NAME + name);
                return true;
            }
            if (isDigit(sign)) {
                readNumber();
                return true;
            }
            if (sign != '(' && sign != '!' && sign != '-' || open >= MOST_OPEN) {
                return false;
            }
            place++;
            switch (sign) {
                case '(': return readInner(open + 1);
                case '!': return readNot(open + 1);
                default: return readMinus(open + 1);
            }
        }

        private boolean readInner(int open) {
            if (!readLevel(0, open) || sign() != ')') {
                return false;
            }
            place++;
            return true;
        }

        /** !O is worked out as O = 0, and -O below as 0 - O: thus a LAW has signs of one form only. */
        private boolean readNot(int open) {
            if (!readOperand(open)) {
                return false;
            }
            emit(0);
            emit(Law.SIGN + '=');
            return true;
        }

        private boolean readMinus(int open) {
            emit(0);
            if (!readOperand(open)) {
                return false;
            }
            emit(Law.SIGN + '-');
            return true;
        }

        private void readNumber() {
            int number = 0;
            for (int n = 0; n < MOST_DIGITS && isDigit(sign()); n++) {
                number = 10 * number + sign() - '0';
                place++;
            }
            emit(number);
        }

        private static boolean isDigit(int sign) {
            return sign >= '0' && sign <= '9';
        }

        private static int nameOf(int sign) {
            switch (sign) {
                case 'h': return 0;
                case 'w': return 1;
                case 'k': return 2;
                case 'x': return 3;
                case 'd': return 4;
                case 's': return 5;
                case 'b': return 6;
                default: return NO_NAME;
            }
        }

        private int sign() {
            return place >= 0 && place < length && place < tape.length ? tape[place] : END;
        }

        private void emit(int item) {
            if (codeLength < code.length) {
                code[codeLength] = item;
                codeLength++;
            }
        }
    }

    /** A text in the Reader's code: numbers below NAME, names from NAME on, signs from SIGN on. */
    static final class Law {
        static final int NAME = 10000, SIGN = 20000;
        private static final int MOST_TAKEN = 9999;

        private final int[] code;
        private final int[] stack;
        private final int[] names = new int[7];

        Law(int[] read, int length) {
            int held = Math.max(0, Math.min(length, read.length));
            code = new int[held];
            stack = new int[held + 1];
            System.arraycopy(read, 0, code, 0, held);
        }

        /** TAKES at a CELL. */
        int takenAt(Step step, int cell, int path, int down, int shoe, int abreast) {
            int unlike = step.unlike();
            int far = Math.abs(cell - path);
            int one = foot(step.hard, step.wet, unlike, far, down, shoe, abreast);
            if (abreast == 0) {
                return one;
            }
            int otherFar = Math.abs(cell - (CELLS - 1 - path));
            return one + foot(step.hard, step.wet, unlike, otherFar, down, shoe, abreast);
        }

        /** What one FOOT takes, held within its bounds. */
        int foot(int hard, int wet, int unlike, int far, int down, int shoe, int abreast) {
            names[0] = hard;
            names[1] = wet;
            names[2] = unlike;
            names[3] = far;
            names[4] = down;
            names[5] = shoe;
            names[6] = abreast;
            int top = 0;
            boolean counts = true;
            for (int i = 0; i < code.length; i++) {
                int item = code[i];
                if (!counts) {
                    counts = item == SIGN + ';';
                } else if (item < SIGN) {
                    top = Math.min(top + 1, stack.length - 1);
                    stack[top] = operand(item);
                } else if (item == SIGN + '?') {
                    counts = stack[top] != 0;
                    top = 0;
                } else if (item == SIGN + ';') {
                    return Math.max(0, Math.min(MOST_TAKEN, stack[top]));
                } else if (top > 0) {
                    top--;
                    stack[top] = joined(item - SIGN, stack[top], stack[top + 1]);
                }
            }
            return 0;
        }

        private int operand(int item) {
            int name = item - NAME;
            return name >= 0 && name < names.length ? names[name] : item;
        }

        private static int joined(int sign, int a, int b) {
            switch (sign) {
                case '|': return a != 0 || b != 0 ? 1 : 0;
                case '&': return a != 0 && b != 0 ? 1 : 0;
                case '<': return a < b ? 1 : 0;
                case '=': return a == b ? 1 : 0;
                case '>': return a > b ? 1 : 0;
                case '+': return a + b;
                case '-': return a - b;
                case '*': return a * b;
                case '/': return b == 0 ? 0 : a / b;
                case '%': return b == 0 ? 0 : a % b;
                default: return 0;
            }
        }
    }

    static final class Story {
        private final int first;
        private final int last;
        private final int ups;
        private final int downs;
        private final int path;
        private final int shoe;
        private final int abreast;

        Story(int first, int last, int ups, int downs, int path, int shoe, int abreast) {
            this.first = first;
            this.last = last;
            this.ups = ups;
            this.downs = downs;
            this.path = path;
            this.shoe = shoe;
            this.abreast = abreast;
        }

        /** WORN of a CELL by this STORY alone. */
        long wornOff(Law law, Step step, int cell) {
            long years = last - Math.max(first, step.year);
            if (years <= 0) {
                return 0;
            }
            long daily = (long) ups * law.takenAt(step, cell, path, 0, shoe, abreast)
                    + (long) downs * law.takenAt(step, cell, path, 1, shoe, abreast);
            return years * daily * 300 / 1000;
        }
    }

    /** The search for SHARES; its rows are made once, as ANOTHER STAIR searches on every STEP. */
    static final class Shares {
        private static final int MOST = 60;

        private final int[] up = new int[CELLS];
        private final int[] down = new int[CELLS];
        private final int[] left = new int[CELLS];
        int ups;
        int downs;
        int off;

        void find(Law law, Step step, int path, int shoe) {
            for (int c = 0; c < CELLS; c++) {
                up[c] = law.takenAt(step, c, path, 0, shoe, 0);
                down[c] = law.takenAt(step, c, path, 1, shoe, 0);
            }
            off = MOST_TOLD;
            for (int a = 0; a <= MOST; a++) {
                for (int c = 0; c < CELLS; c++) {
                    left[c] = step.measure(c) - a * up[c];
                }
                findDowns(a);
            }
        }

        private void findDowns(int a) {
            for (int b = 0; b <= MOST; b++) {
                int offHere = offBy(b);
                if (offHere < off) {
                    off = offHere;
                    ups = a;
                    downs = b;
                }
            }
        }

        /** Stops early: what is not less than the least so far is not looked for. */
        private int offBy(int b) {
            int sum = 0;
            for (int c = 0; c < CELLS && sum < off; c++) {
                sum += Math.abs(left[c] - b * down[c]);
            }
            return sum;
        }
    }

    /**
     * How far each set of told STORIES is off the MEASURES. A set is counted among the told STORIES
     * alone (0 .. 255), which keeps the order that sets have as bits.
     */
    static final class Sets {
        private final long[] worn = new long[1 << MOST_SET];
        private final long[] off = new long[1 << MOST_SET];
        private final long[] offMost = new long[1 << MOST_SET];
        private int length;

        void begin() {
            for (int i = 0; i < off.length; i++) {
                off[i] = 0;
                offMost[i] = 0;
            }
            length = 1;
        }

        void beginCell() {
            worn[0] = 0;
            length = 1;
        }

        /** Each set there is comes once more with one more STORY. */
        void addStory(long wornBy) {
            if (2 * length > worn.length) {
                return;
            }
            for (int i = 0; i < length; i++) {
                worn[length + i] = worn[i] + wornBy;
            }
            length *= 2;
        }

        void endCell(int measure) {
            for (int i = 0; i < length && i < worn.length; i++) {
                long offHere = Math.abs(worn[i] - measure);
                off[i] += offHere;
                offMost[i] = Math.max(offMost[i], offHere);
            }
        }

        int fitting(int slack) {
            int sets = 0;
            for (int i = 0; i < length && i < offMost.length; i++) {
                if (offMost[i] <= slack) {
                    sets++;
                }
            }
            return sets;
        }

        int leastFitting(int slack) {
            for (int i = 0; i < length && i < offMost.length; i++) {
                if (offMost[i] <= slack) {
                    return i;
                }
            }
            return NOT;
        }

        int nearest() {
            int nearest = 0;
            for (int i = 1; i < length && i < off.length; i++) {
                if (off[i] < off[nearest]) {
                    nearest = i;
                }
            }
            return nearest;
        }

        long offOf(int set) {
            return set >= 0 && set < off.length ? off[set] : 0;
        }
    }

    /** The GATE's counts. */
    static final class Days {
        private final int[] counts = new int[30];
        int length;

        boolean add(int v) {
            if (length >= counts.length) {
                return false;
            }
            counts[length] = v;
            length++;
            return true;
        }

        int mean() {
            int sum = 0;
            for (int i = 0; i < length && i < counts.length; i++) {
                sum += counts[i];
            }
            return length == 0 ? 0 : sum / length;
        }

        /** Found by counting those ahead of it, so that no row is made or put in another order. */
        int middle() {
            int ahead = (length - 1) / 2;
            for (int i = 0; i < length && i < counts.length; i++) {
                if (notAbove(counts[i] - 1) <= ahead && notAbove(counts[i]) > ahead) {
                    return counts[i];
                }
            }
            return 0;
        }

        private int notAbove(int v) {
            int found = 0;
            for (int i = 0; i < length && i < counts.length; i++) {
                if (counts[i] <= v) {
                    found++;
                }
            }
            return found;
        }

        int walked(int n, int seed) {
            int z = seed;
            int sum = 0;
            for (int day = 0; day < n && length > 0; day++) {
                z = z * 1103515245 + 12345;
                int i = (z >>> 8) % length;
                sum += i < counts.length ? counts[i] : 0;
            }
            return sum;
        }
    }

    /** The CHANGES, the oldest first: those ahead of done can be UNDONE, the others DONE AGAIN. */
    static final class Changes {
        private static final int MOST = 40;

        private final int[] places = new int[MOST];
        private final int[] was = new int[MOST];
        private final int[] became = new int[MOST];
        int done;
        int length;

        void add(int place, int from, int to) {
            if (done >= MOST) {
                dropOldest();
            }
            if (done < 0 || done >= MOST) {
                return;
            }
            places[done] = place;
            was[done] = from;
            became[done] = to;
            done++;
            length = done;
        }

        private void dropOldest() {
            System.arraycopy(places, 1, places, 0, MOST - 1);
            System.arraycopy(was, 1, was, 0, MOST - 1);
            System.arraycopy(became, 1, became, 0, MOST - 1);
            done = MOST - 1;
        }

        int placeOf(int i) {
            return i >= 0 && i < MOST ? places[i] : 0;
        }

        int wasOf(int i) {
            return i >= 0 && i < MOST ? was[i] : 0;
        }

        int becameOf(int i) {
            return i >= 0 && i < MOST ? became[i] : 0;
        }
    }

    /**
     * The WEARS, each kept as its KIND, and their ACTS. A KIND's own bodies stand in a table; what it
     * has not it finds in the KIND above.
     */
    static final class Wears {
        private static final int LIES = 0, WEARS = 1, COUNTS = 2, TELLS = 3, ACTS = 4, KINDS = 8;
        private static final int MOST = 50, TRACE = 24, MOST_OPEN = 40, NONE = 0;
        private static final int[] ABOVE = {-1, 0, 0, 1, 2, 0, 0, 6};
        // A line a KIND, a place an ACT. WEAR's line has LIES' and TELLS' bodies, too: nothing is above it.
        private static final int[] OWN = {
            1, 10, 11, 2,
            20, 0, 0, 0,
            0, 30, 0, 0,
            41, 0, 40, 0,
            0, 0, 0, 50,
            0, 0, 60, 0,
            0, 70, 0, 0,
            80, 0, 0, 81};

        private final int[] kinds = new int[MOST];
        private final int[] trace = new int[TRACE];
        private int actor;
        int length;
        int ran;

        static boolean isKind(int kind) {
            return kind >= 0 && kind < KINDS;
        }

        static int above(int kind) {
            return kind >= 0 && kind < ABOVE.length ? ABOVE[kind] : -1;
        }

        static boolean isUnder(int kind, int top) {
            int at = kind;
            for (int n = 0; n < KINDS && at >= 0 && at != top; n++) {
                at = above(at);
            }
            return at == top;
        }

        boolean add(int kind) {
            if (length >= kinds.length) {
                return false;
            }
            kinds[length] = kind;
            length++;
            return true;
        }

        int kindOf(int wear) {
            return wear >= 0 && wear < length && wear < kinds.length ? kinds[wear] : -1;
        }

        int traced() {
            return Math.min(ran, TRACE);
        }

        int traceOf(int i) {
            return i >= 0 && i < trace.length ? trace[i] : 0;
        }

        int perform(int wear, int act, int x) {
            ran = 0;
            if (kindOf(wear) < 0 || act < 0 || act >= ACTS) {
                return 0;
            }
            actor = wear;
            return own(act, x, 0);
        }

        private int own(int act, int x, int open) {
            return find(kindOf(actor), act, x, open);
        }

        /** Runs the body of a KIND, or of the next one above that has one. */
        private int find(int kind, int act, int x, int open) {
            if (open > MOST_OPEN) {
                return 0;
            }
            int at = kind;
            for (int n = 0; n < KINDS && at >= 0; n++) {
                int place = ACTS * at + act;
                int body = place >= 0 && place < OWN.length ? OWN[place] : NONE;
                if (body != NONE) {
                    note(body);
                    return run(body, above(at), x, open + 1);
                }
                at = above(at);
            }
            return 0;
        }

        private void note(int body) {
            if (ran >= 0 && ran < trace.length) {
                trace[ran] = body;
            }
            ran++;
        }

        private int run(int body, int above, int x, int open) {
            switch (body) {
                case 1: return x + actor;
                case 2: return own(WEARS, x, open) - own(COUNTS, 1, open);
                case 10: return own(LIES, x, open) * 2;
                case 11: return x ^ actor;
                case 20: return find(above, LIES, x, open) + 3;
                case 30: return -find(above, WEARS, x, open);
                case 40: return find(above, COUNTS, x, open) * 2;
                case 41: return find(above, LIES, x + 1, open);
                case 50: return find(above, TELLS, x, open) ^ 5;
                case 60: return find(above, COUNTS, x, open) - own(LIES, 2, open);
                case 70: return find(above, WEARS, x, open) + own(COUNTS, 2, open);
                case 80: return find(above, LIES, x, open) * 3;
                case 81: return find(above, TELLS, x, open) - 1;
                default: return 0;
            }
        }
    }

    /** A SHELF. A ROW of any sort lies in longs; what comes in is cut to its sort. */
    static final class Shelf {
        static final int LONGEST = 60;
        private static final int BYTES = 0, SHORTS = 1, INTS = 2, BOOLEANS = 4;
        private static final int EMPTY = 0, WEAR = 1, ROW = 2;

        final long[] elements = new long[LONGEST];
        private int holds = EMPTY;
        private int length;
        int kind;
        int sort;

        static boolean isSort(int sort) {
            return sort >= BYTES && sort <= BOOLEANS;
        }

        boolean isEmpty() {
            return holds == EMPTY;
        }

        boolean isRow() {
            return holds == ROW;
        }

        boolean isRowOfInts() {
            return isRow() && sort == INTS;
        }

        void holdNothing() {
            holds = EMPTY;
        }

        void holdWear(int ofKind) {
            holds = WEAR;
            kind = ofKind;
        }

        void holdRow(int ofSort, int n) {
            holds = ROW;
            sort = ofSort;
            length = n;
            for (int i = 0; i < elements.length; i++) {
                elements[i] = 0;
            }
        }

        boolean hasPlace(int i) {
            return i >= 0 && i < length && i < elements.length;
        }

        boolean hasPart(int i, int n) {
            return i >= 0 && n >= 0 && n <= length && i <= length - n;
        }

        long at(int i) {
            return hasPlace(i) ? elements[i] : 0;
        }

        void set(int i, long v) {
            if (hasPlace(i)) {
                elements[i] = cut(v);
            }
        }

        private long cut(long v) {
            switch (sort) {
                case BYTES: return (byte) v;
                case SHORTS: return (short) v;
                case INTS: return (int) v;
                case BOOLEANS: return v != 0 ? 1 : 0;
                default: return v;
            }
        }
    }
}
