/** Sand mandalas that four hands pour with shared funnels; the shared document says what each call answers. */
public final class SandMandalas {
    public static final int NO_SUCH = -1, BAD_VALUE = -2, BAD_TEXT = -3, TOO_MANY = -4, NOT_POSSIBLE = -5, NONE = -6;
    public static final int NEED = 0, HEAP = 1, MIRROR = 2;

    private static final int SETTINGS = 3, QUARTERS = 4, RINGS = 5, PLACES = 8, COLOURS = 6;
    private static final int MOST_GRAINS = 99, MOST_IN_FUNNEL = 9999, MOST_BREATHS = 200;

    private final State state;
    private final State trial;
    private final Breath breath;
    private final Memory memory;
    private final Pad pad;

    public SandMandalas() {
        state = new State();
        trial = new State();
        breath = new Breath();
        memory = new Memory();
        pad = new Pad();
    }

    // ---- changes

    public int set(int setting, int value) {
        memory.stage(state);
        return memory.recordUnlessError(Changes.changeSetting(state, setting, value));
    }

    public int pattern(int ring, int colours) {
        memory.stage(state);
        return memory.recordUnlessError(Changes.layPattern(state, ring, colours));
    }

    public int take(int hand, int colour) {
        memory.stage(state);
        return memory.recordUnlessError(Changes.takeFunnel(state, hand, colour));
    }

    public int fill(int colour, int grains) {
        memory.stage(state);
        return memory.recordUnlessError(Changes.fillFunnel(state, colour, grains));
    }

    public int pour(int hand, int ring, int place, int grains) {
        memory.stage(state);
        return memory.recordUnlessError(Changes.pourGrains(state, hand, ring, place, grains));
    }

    public int scrape(int quarter, int ring, int place) {
        memory.stage(state);
        return memory.recordUnlessError(Changes.scrapeBare(state, quarter, ring, place));
    }

    public int breathe(int quarter, int down) {
        memory.stage(state);
        return memory.recordUnlessError(Changes.blow(state, breath, quarter, down));
    }

    public int close() {
        memory.stage(state);
        return memory.recordUnlessError(Changes.closeRing(state));
    }

    public int sweep() {
        memory.stage(state);
        return memory.recordUnlessError(Changes.sweepQuarter(state));
    }

    // ---- what there is

    public int at(int quarter, int ring, int place, int what) {
        if (!isPlace(quarter, ring, place)) return NO_SUCH;
        switch (what) {
            case 0: return state.colour(quarter, ring, place);
            case 1: return state.grains(quarter, ring, place);
            case 2: return state.wanted(quarter, ring, place);
            case 3: return bit(state.isRight(quarter, ring, place));
            case 4: return state.patternPlace(quarter, place);
            default: return BAD_VALUE;
        }
    }

    public int ofRing(int ring, int what) {
        if (!isRing(ring)) return NO_SUCH;
        switch (what) {
            case 0: return bit(state.isClosed(ring));
            case 1: return bit(state.hasPattern(ring));
            case 2: return bit(Survey.isWhole(state, ring));
            case 3: return Survey.unlikePlaces(state, ring);
            case 4: return Survey.tally(state, Survey.NOT_RIGHT, Survey.ANY, Survey.ANY, ring);
            case 5: return Survey.tally(state, Survey.GRAINS, Survey.ANY, Survey.ANY, ring);
            case 6: return Survey.tally(state, Survey.MISSING, Survey.ANY, Survey.ANY, ring);
            default: return BAD_VALUE;
        }
    }

    public int ofQuarter(int quarter, int what) {
        if (!isQuarter(quarter)) return NO_SUCH;
        switch (what) {
            case 0: return Survey.tally(state, Survey.GRAINS, Survey.ANY, quarter, Survey.ANY);
            case 1: return Survey.tally(state, Survey.NOT_RIGHT_BY_PATTERN, Survey.ANY, quarter, Survey.ANY);
            case 2: return state.heldBy(quarter);
            case 3: return bit(state.isMirrored(quarter));
            case 4: return bit(state.isSwept(quarter));
            default: break;
        }
        int colour = what - 4;
        if (!isColour(colour)) return BAD_VALUE;
        return Survey.tally(state, Survey.GRAINS, colour, quarter, Survey.ANY);
    }

    public int ofColour(int colour, int what) {
        if (!isColour(colour)) return NO_SUCH;
        switch (what) {
            case 0: return state.funnel(colour);
            case 1: return state.holderOf(colour);
            case 2: return Survey.tally(state, Survey.GRAINS, colour, Survey.ANY, Survey.ANY);
            case 3: return Survey.tally(state, Survey.WANTED, colour, Survey.ANY, Survey.ANY);
            case 4: return Survey.tally(state, Survey.MISSING, colour, Survey.ANY, Survey.ANY);
            default: return BAD_VALUE;
        }
    }

    public int count(int what) {
        switch (what) {
            case 0: return state.number(State.CLOSED);
            case 1: return state.number(State.DONE);
            case 2: return state.number(State.POURED);
            case 3: return state.number(State.LOST);
            case 4: return Survey.tally(state, Survey.GRAINS, Survey.ANY, Survey.ANY, Survey.ANY);
            case 5: return Survey.wholeRings(state);
            case 6: return state.number(State.SWEPT);
            case 7: return state.setting(NEED);
            case 8: return state.setting(HEAP);
            case 9: return state.setting(MIRROR);
            case 10: return pad.length();
            case 11: return memory.undoable();
            default: return BAD_VALUE;
        }
    }

    // ---- what if; nothing changes

    public int needed(int what) {
        if (what < 0 || what > 4) return BAD_VALUE;
        int neediest = Survey.neediest(state);
        if (neediest == NONE) return NONE;
        int quarter = neediest / PLACES % QUARTERS;
        int ring = neediest / PLACES / QUARTERS;
        int place = neediest % PLACES;
        switch (what) {
            case 0: return quarter;
            case 1: return ring;
            case 2: return place;
            case 3: return state.wanted(quarter, ring, place);
            default: return state.missing(quarter, ring, place);
        }
    }

    public int lacking() {
        int set = 0;
        for (int colour = 1; colour <= COLOURS; colour++) {
            int missing = Survey.tally(state, Survey.MISSING, colour, Survey.ANY, Survey.ANY);
            if (missing > state.funnel(colour)) set |= 1 << colour;
        }
        return set;
    }

    public int ifBreathed(int quarter, int down, int what) {
        if (!isQuarter(quarter)) return NO_SUCH;
        if (!isDirection(down) || what < 0 || what > 2) return BAD_VALUE;
        trial.copyFrom(state);
        int lost = breath.over(trial, quarter, down);
        switch (what) {
            case 0: return lost;
            case 1: return Survey.rightOnlyInFirst(state, trial, quarter);
            default: return Survey.rightOnlyInFirst(trial, state, quarter);
        }
    }

    public int settles(int quarter, int down) {
        if (!isQuarter(quarter)) return NO_SUCH;
        if (!isDirection(down)) return BAD_VALUE;
        trial.copyFrom(state);
        for (int breaths = 0; breaths <= MOST_BREATHS; breaths++) {
            breath.over(trial, quarter, down);
            if (!breath.changedSomething()) return breaths;
        }
        return NONE;
    }

    public int best() {
        int leader = 0;
        int most = 0;
        for (int quarter = 0; quarter < QUARTERS; quarter++) {
            int right = Survey.tally(state, Survey.RIGHT, Survey.ANY, quarter, Survey.ANY);
            if (right > most) {
                most = right;
                leader = quarter;
            }
        }
        return leader;
    }

    // ---- texts

    public int put(long characters) {
        return pad.append(characters);
    }

    public int wipe() {
        int length = pad.length();
        pad.empty();
        return length;
    }

    public int fault() {
        return Orders.firstFault(pad);
    }

    public int carryOut() {
        if (Orders.firstFault(pad) != NONE) return BAD_TEXT;
        memory.stage(state);
        int done = 0;
        boolean goesWell = true;
        for (int at = 0; at < pad.length() && goesWell; at++) {
            if (!Orders.beginsAt(pad, at)) continue;
            goesWell = Orders.obey(pad, at, state, breath) >= 0;
            if (goesWell) done++;
        }
        pad.empty();
        return memory.recordUnlessError(done);
    }

    // ---- undo, saving

    public int undo() {
        return memory.goBack(state);
    }

    public int save(int slot) {
        if (!Memory.isSlot(slot)) return BAD_VALUE;
        memory.keepInSlot(slot, state);
        return state.number(State.CLOSED);
    }

    public int restore(int slot) {
        if (!Memory.isSlot(slot)) return BAD_VALUE;
        if (!memory.isSaved(slot)) return NOT_POSSIBLE;
        memory.stage(state);
        memory.bringFromSlot(slot, state);
        return memory.recordUnlessError(state.number(State.CLOSED));
    }

    // ---- ranges

    private static boolean isQuarter(int quarter) {
        return quarter >= 0 && quarter < QUARTERS;
    }

    private static boolean isRing(int ring) {
        return ring >= 0 && ring < RINGS;
    }

    private static boolean isPlace(int quarter, int ring, int place) {
        return isQuarter(quarter) && isRing(ring) && place >= 0 && place < PLACES;
    }

    private static boolean isColour(int colour) {
        return colour >= 1 && colour <= COLOURS;
    }

    private static boolean isDirection(int down) {
        return down == 0 || down == 1;
    }

    private static int bit(boolean condition) {
        return condition ? 1 : 0;
    }

    /** All that undo and the slots bring back, in one row of numbers, so that it is copied as a whole. */
    private static final class State {
        // A funnel stands at FUNNEL + its colour; the cell of the colour 0 stays unused.
        static final int SETTING = 0, PATTERN = SETTING + SETTINGS, FUNNEL = PATTERN + RINGS;
        static final int HAND = FUNNEL + COLOURS + 1, CLOSED = HAND + QUARTERS, SWEPT = CLOSED + 1;
        static final int DONE = SWEPT + 1, POURED = DONE + 1, LOST = POURED + 1;
        static final int GRAINS = LOST + 1, COLOUR = GRAINS + QUARTERS * RINGS * PLACES;
        static final int SIZE = COLOUR + QUARTERS * RINGS * PLACES;

        private static final int NO_PATTERN = -1;

        private final int[] cells = new int[SIZE];

        State() {
            lay(SETTING + NEED, 5);
            lay(SETTING + HEAP, 12);
            lay(SETTING + MIRROR, 1);
            for (int colour = 1; colour <= COLOURS; colour++) lay(FUNNEL + colour, 300);
            dropPatterns();
        }

        int number(int cell) {
            return cell >= 0 && cell < cells.length ? cells[cell] : 0;
        }

        void lay(int cell, int value) {
            if (cell >= 0 && cell < cells.length) cells[cell] = value;
        }

        void raise(int cell, int by) {
            lay(cell, number(cell) + by);
        }

        void copyFrom(State other) {
            System.arraycopy(other.cells, 0, cells, 0, SIZE);
        }

        void copyInto(int[] rows, int from) {
            if (from >= 0 && from <= rows.length - SIZE) System.arraycopy(cells, 0, rows, from, SIZE);
        }

        void copyOutOf(int[] rows, int from) {
            if (from >= 0 && from <= rows.length - SIZE) System.arraycopy(rows, from, cells, 0, SIZE);
        }

        int setting(int which) {
            return number(SETTING + which);
        }

        boolean hasPattern(int ring) {
            return number(PATTERN + ring) != NO_PATTERN;
        }

        void dropPatterns() {
            for (int ring = 0; ring < RINGS; ring++) lay(PATTERN + ring, NO_PATTERN);
        }

        int funnel(int colour) {
            return number(FUNNEL + colour);
        }

        int heldBy(int hand) {
            return number(HAND + hand);
        }

        int holderOf(int colour) {
            for (int hand = 0; hand < QUARTERS; hand++) {
                if (heldBy(hand) == colour) return hand;
            }
            return NONE;
        }

        boolean isClosed(int ring) {
            return ring < number(CLOSED);
        }

        boolean isSwept(int quarter) {
            for (int turn = 0; turn < QUARTERS && turn < number(SWEPT); turn++) {
                if (Changes.quarterOfTurn(turn) == quarter) return true;
            }
            return false;
        }

        int grains(int quarter, int ring, int place) {
            return number(GRAINS + (quarter * RINGS + ring) * PLACES + place);
        }

        int colour(int quarter, int ring, int place) {
            return number(COLOUR + (quarter * RINGS + ring) * PLACES + place);
        }

        void heap(int quarter, int ring, int place, int colour, int grains) {
            int index = (quarter * RINGS + ring) * PLACES + place;
            lay(GRAINS + index, grains);
            lay(COLOUR + index, grains == 0 ? 0 : colour);
        }

        int patternPlace(int quarter, int place) {
            boolean mirrored = number(SETTING + MIRROR) == 1 && quarter % 2 == 1;
            return mirrored ? PLACES - 1 - place : place;
        }

        boolean isMirrored(int quarter) {
            return patternPlace(quarter, 0) != 0;
        }

        /** The colour that a place has to be: 0 for none, NONE without a pattern. */
        int wanted(int quarter, int ring, int place) {
            int pattern = number(PATTERN + ring);
            if (pattern == NO_PATTERN) return NONE;
            return pattern >> 3 * patternPlace(quarter, place) & 7;
        }

        boolean isRight(int quarter, int ring, int place) {
            int wanted = wanted(quarter, ring, place);
            if (wanted == NONE) return false;
            if (wanted == 0) return grains(quarter, ring, place) == 0;
            return colour(quarter, ring, place) == wanted && grains(quarter, ring, place) >= setting(NEED);
        }

        int missing(int quarter, int ring, int place) {
            int wanted = wanted(quarter, ring, place);
            if (!isColour(wanted)) return 0;
            int has = colour(quarter, ring, place) == wanted ? grains(quarter, ring, place) : 0;
            return Math.max(0, setting(NEED) - has);
        }
    }

    /** What the changes do, for calls and for orders of a text alike; none of it records anything. */
    private static final class Changes {
        private static final int[] SWEEP_ORDER = {0, 2, 1, 3};

        static int quarterOfTurn(int turn) {
            return turn >= 0 && turn < SWEEP_ORDER.length ? SWEEP_ORDER[turn] : NO_SUCH;
        }

        static int changeSetting(State state, int setting, int value) {
            if (!isSettingValue(setting, value)) return BAD_VALUE;
            int previous = state.setting(setting);
            state.lay(State.SETTING + setting, value);
            return previous;
        }

        private static boolean isSettingValue(int setting, int value) {
            switch (setting) {
                case NEED: return value >= 1 && value <= 50;
                case HEAP: return value >= 1 && value <= 99;
                case MIRROR: return value == 0 || value == 1;
                default: return false;
            }
        }

        static int layPattern(State state, int ring, int colours) {
            if (!isRing(ring)) return NO_SUCH;
            if (!isColourRow(colours)) return BAD_VALUE;
            if (state.isClosed(ring)) return NOT_POSSIBLE;
            int had = bit(state.hasPattern(ring));
            state.lay(State.PATTERN + ring, colours);
            return had;
        }

        private static boolean isColourRow(int colours) {
            int rest = colours;
            for (int place = 0; place < PLACES; place++) {
                if ((rest & 7) > COLOURS) return false;
                rest >>= 3;
            }
            return rest == 0;
        }

        static int takeFunnel(State state, int hand, int colour) {
            if (!isQuarter(hand)) return NO_SUCH;
            if (colour != 0 && !isColour(colour)) return BAD_VALUE;
            int holder = colour == 0 ? NONE : state.holderOf(colour);
            if (holder != NONE && holder != hand) return NOT_POSSIBLE;
            int held = state.heldBy(hand);
            state.lay(State.HAND + hand, colour);
            return held;
        }

        static int fillFunnel(State state, int colour, int grains) {
            if (!isColour(colour)) return NO_SUCH;
            if (grains < 1 || grains > MOST_IN_FUNNEL) return BAD_VALUE;
            int then = Math.min(MOST_IN_FUNNEL, state.funnel(colour) + grains);
            state.lay(State.FUNNEL + colour, then);
            return then;
        }

        static int pourGrains(State state, int hand, int ring, int place, int grains) {
            if (!isPlace(hand, ring, place)) return NO_SUCH;
            if (grains < 1 || grains > MOST_GRAINS) return BAD_VALUE;
            int held = state.heldBy(hand);
            int colour = state.colour(hand, ring, place);
            if (held == 0 || state.isClosed(ring)) return NOT_POSSIBLE;
            if (colour != 0 && colour != held) return NOT_POSSIBLE;
            if (state.funnel(held) < grains) return NOT_POSSIBLE;
            int then = state.grains(hand, ring, place) + grains;
            if (then > MOST_GRAINS) return TOO_MANY;
            state.heap(hand, ring, place, held, then);
            state.raise(State.FUNNEL + held, -grains);
            state.raise(State.POURED, grains);
            return then;
        }

        static int scrapeBare(State state, int quarter, int ring, int place) {
            if (!isPlace(quarter, ring, place)) return NO_SUCH;
            int grains = state.grains(quarter, ring, place);
            if (state.isClosed(ring) || grains == 0) return NOT_POSSIBLE;
            state.heap(quarter, ring, place, 0, 0);
            state.raise(State.LOST, grains);
            return grains;
        }

        static int blow(State state, Breath breath, int quarter, int down) {
            if (!isQuarter(quarter)) return NO_SUCH;
            if (!isDirection(down)) return BAD_VALUE;
            int lost = breath.over(state, quarter, down);
            state.raise(State.LOST, lost);
            return lost;
        }

        static int closeRing(State state) {
            int next = state.number(State.CLOSED);
            if (next >= RINGS || !Survey.isWhole(state, next)) return NOT_POSSIBLE;
            state.lay(State.CLOSED, next + 1);
            return next;
        }

        static int sweepQuarter(State state) {
            if (state.number(State.CLOSED) < RINGS) return NOT_POSSIBLE;
            int turn = state.number(State.SWEPT);
            int quarter = quarterOfTurn(turn);
            for (int ring = 0; ring < RINGS; ring++) {
                for (int place = 0; place < PLACES; place++) {
                    state.raise(State.LOST, state.grains(quarter, ring, place));
                    state.heap(quarter, ring, place, 0, 0);
                }
            }
            state.lay(State.SWEPT, turn + 1);
            if (turn + 1 >= QUARTERS) beginAnew(state);
            return quarter;
        }

        private static void beginAnew(State state) {
            state.lay(State.SWEPT, 0);
            state.lay(State.CLOSED, 0);
            state.dropPatterns();
            state.raise(State.DONE, 1);
        }
    }

    /** Looks at many places of a state at once. */
    private static final class Survey {
        /** Stands for every colour, quarter or ring. */
        static final int ANY = -1;
        static final int GRAINS = 0, RIGHT = 1, NOT_RIGHT = 2, NOT_RIGHT_BY_PATTERN = 3, WANTED = 4, MISSING = 5;

        static int tally(State state, int measure, int colour, int quarter, int ring) {
            int sum = 0;
            for (int r = 0; r < RINGS; r++) {
                if (!matches(ring, r)) continue;
                for (int q = 0; q < QUARTERS; q++) {
                    if (!matches(quarter, q)) continue;
                    for (int place = 0; place < PLACES; place++) sum += measured(state, measure, colour, q, r, place);
                }
            }
            return sum;
        }

        private static boolean matches(int asked, int found) {
            return asked == ANY || asked == found;
        }

        private static int measured(State state, int measure, int colour, int quarter, int ring, int place) {
            int found = state.colour(quarter, ring, place);
            int wanted = state.wanted(quarter, ring, place);
            boolean right = state.isRight(quarter, ring, place);
            switch (measure) {
                case GRAINS: return matches(colour, found) ? state.grains(quarter, ring, place) : 0;
                case RIGHT: return bit(right);
                case NOT_RIGHT: return bit(!right);
                case NOT_RIGHT_BY_PATTERN: return bit(wanted != NONE && !right);
                case WANTED: return bit(wanted == colour);
                case MISSING: return matches(colour, wanted) ? state.missing(quarter, ring, place) : 0;
                default: return 0;
            }
        }

        static boolean isWhole(State state, int ring) {
            for (int quarter = 0; quarter < QUARTERS; quarter++) {
                for (int place = 0; place < PLACES; place++) {
                    if (!state.isRight(quarter, ring, place)) return false;
                }
            }
            return true;
        }

        static int wholeRings(State state) {
            int set = 0;
            for (int ring = 0; ring < RINGS; ring++) {
                if (isWhole(state, ring)) set |= 1 << ring;
            }
            return set;
        }

        static int unlikePlaces(State state, int ring) {
            int set = 0;
            for (int place = 0; place < PLACES; place++) {
                if (isUnlike(state, ring, place)) set |= 1 << place;
            }
            return set;
        }

        private static boolean isUnlike(State state, int ring, int place) {
            int colour = state.colour(0, ring, place);
            for (int quarter = 1; quarter < QUARTERS; quarter++) {
                // Mirroring twice leads back, so the same step leads from the pattern to the quarter.
                if (state.colour(quarter, ring, state.patternPlace(quarter, place)) != colour) return true;
            }
            return false;
        }

        /** The place that needs the most, as (ring * QUARTERS + quarter) * PLACES + place, or NONE. */
        static int neediest(State state) {
            int neediest = NONE;
            int fewest = state.setting(NEED);
            for (int ring = state.number(State.CLOSED); ring < RINGS; ring++) {
                for (int quarter = 0; quarter < QUARTERS; quarter++) {
                    for (int place = 0; place < PLACES; place++) {
                        int grains = state.grains(quarter, ring, place);
                        if (grains < fewest && canBePoured(state, quarter, ring, place)) {
                            fewest = grains;
                            neediest = (ring * QUARTERS + quarter) * PLACES + place;
                        }
                    }
                }
            }
            return neediest;
        }

        private static boolean canBePoured(State state, int quarter, int ring, int place) {
            int wanted = state.wanted(quarter, ring, place);
            int colour = state.colour(quarter, ring, place);
            return isColour(wanted) && (colour == 0 || colour == wanted);
        }

        static int rightOnlyInFirst(State first, State second, int quarter) {
            int sum = 0;
            for (int ring = 0; ring < RINGS; ring++) {
                for (int place = 0; place < PLACES; place++) {
                    if (first.isRight(quarter, ring, place) && !second.isRight(quarter, ring, place)) sum++;
                }
            }
            return sum;
        }
    }

    /** A breath; its rows hold a ring as it was ahead of it, and are used again for each ring. */
    private static final class Breath {
        private final int[] grainsBefore = new int[PLACES];
        private final int[] coloursBefore = new int[PLACES];
        private boolean changed;

        /** Changes the places alone and returns the grains lost; who calls it counts them. */
        int over(State state, int quarter, int down) {
            changed = false;
            int lost = 0;
            for (int ring = state.number(State.CLOSED); ring < RINGS; ring++) {
                rememberRing(state, quarter, ring);
                for (int place = 0; place < PLACES; place++) lost += overPlace(state, quarter, ring, place, down);
            }
            return lost;
        }

        boolean changedSomething() {
            return changed;
        }

        private void rememberRing(State state, int quarter, int ring) {
            for (int place = 0; place < grainsBefore.length && place < coloursBefore.length; place++) {
                grainsBefore[place] = state.grains(quarter, ring, place);
                coloursBefore[place] = state.colour(quarter, ring, place);
            }
        }

        private int overPlace(State state, int quarter, int ring, int place, int down) {
            int source = down == 1 ? (place + 1) % PLACES : (place + PLACES - 1) % PLACES;
            int heap = state.setting(HEAP);
            int colour = remembered(coloursBefore, place);
            int coming = spilled(remembered(grainsBefore, source), heap);
            int staying = remembered(grainsBefore, place) - spilled(remembered(grainsBefore, place), heap);
            if (colour == 0) colour = remembered(coloursBefore, source);
            boolean joins = colour == remembered(coloursBefore, source);
            int wouldBe = joins ? staying + coming : staying;
            int then = Math.min(MOST_GRAINS, wouldBe);
            if (then != remembered(grainsBefore, place)) changed = true;
            state.heap(quarter, ring, place, colour, then);
            return wouldBe - then + (joins ? 0 : coming);
        }

        private static int remembered(int[] row, int place) {
            return place >= 0 && place < row.length ? row[place] : 0;
        }

        private static int spilled(int grains, int heap) {
            return grains > heap ? (grains - heap) / 2 : 0;
        }
    }

    /** The states that can come back: a circle of those before the latest changes, and the slots. */
    private static final class Memory {
        private static final int MOST_UNDONE = 6, SLOTS = 2;
        // One row more than can be undone: a state is staged there before it is known whether the call is an error.
        private static final int CIRCLE = MOST_UNDONE + 1;

        private final int[] rows = new int[(CIRCLE + SLOTS) * State.SIZE];
        private int oldest;
        private int kept;
        private int savedSlots;

        int undoable() {
            return kept;
        }

        void stage(State state) {
            state.copyInto(rows, circleRow(kept));
        }

        int recordUnlessError(int answer) {
            if (answer < 0) return answer;
            if (kept < MOST_UNDONE) kept++;
            else oldest = (oldest + 1) % CIRCLE;
            return answer;
        }

        int goBack(State state) {
            if (kept == 0) return NOT_POSSIBLE;
            kept--;
            state.copyOutOf(rows, circleRow(kept));
            return kept;
        }

        private int circleRow(int age) {
            return (oldest + age) % CIRCLE * State.SIZE;
        }

        static boolean isSlot(int slot) {
            return slot >= 0 && slot < SLOTS;
        }

        boolean isSaved(int slot) {
            return (savedSlots >> slot & 1) == 1;
        }

        void keepInSlot(int slot, State state) {
            state.copyInto(rows, slotRow(slot));
            savedSlots |= 1 << slot;
        }

        void bringFromSlot(int slot, State state) {
            state.copyOutOf(rows, slotRow(slot));
        }

        private static int slotRow(int slot) {
            return (CIRCLE + slot) * State.SIZE;
        }
    }

    /** The text of the pad. */
    private static final class Pad {
        static final int LONGEST = 80;
        private static final int MOST_AT_ONCE = 8, FIRST_SIGN = 33, LAST_SIGN = 126;

        private final int[] signs = new int[LONGEST];
        private int length;

        int length() {
            return length;
        }

        void empty() {
            length = 0;
        }

        /** The character at an index, 0 outside of the text. */
        int sign(int index) {
            return index >= 0 && index < length && index < signs.length ? signs[index] : 0;
        }

        int append(long characters) {
            int amount = amountOf(characters);
            if (amount == 0) return BAD_VALUE;
            if (length + amount > LONGEST) return TOO_MANY;
            for (int before = amount - 1; before >= 0; before--) addSign((int) (characters >>> 8 * before & 255));
            return length;
        }

        /** How many characters a number holds, 0 if it is not one that may be appended. */
        private static int amountOf(long characters) {
            long rest = characters;
            int amount = 0;
            while (amount < MOST_AT_ONCE && rest != 0) {
                long sign = rest & 255;
                if (sign < FIRST_SIGN || sign > LAST_SIGN) return 0;
                rest >>>= 8;
                amount++;
            }
            return amount;
        }

        private void addSign(int sign) {
            if (length < 0 || length >= signs.length) return;
            signs[length] = sign;
            length++;
        }
    }

    /** Reads the orders of a pad. */
    private static final class Orders {
        /** The first character that cannot stand, the length if the text ends too early, or NONE. */
        static int firstFault(Pad pad) {
            int at = 0;
            for (int orders = 0; orders < Pad.LONGEST; orders++) {
                String shape = shapeOf(pad.sign(at));
                if (shape.isEmpty()) return at;
                for (int i = 0; i < shape.length(); i++) {
                    if (!fits(shape.charAt(i), pad.sign(at))) return at;
                    at++;
                }
                if (shape.charAt(shape.length() - 1) == 'N' && hasSecondDigit(pad, at - 1)) at++;
                if (at == pad.length()) return NONE;
                if (pad.sign(at) != ';') return at;
                at++;
            }
            return at;
        }

        /** D stands for a digit, C a colour, O a colour or 0, N a number, S a direction, all else for itself. */
        private static String shapeOf(int letter) {
            switch (letter) {
                case 'h': return "hDC";
                case 'p': return "pDDD*N";
                case 's': return "sDDD";
                case 't': return "tD=OOOOOOOO";
                case 'b': return "bDS";
                case 'c': return "c";
                default: return "";
            }
        }

        private static boolean fits(int kind, int sign) {
            switch (kind) {
                case 'D':
                case 'N': return isDigit(sign);
                case 'C': return sign >= '1' && sign <= '6';
                case 'O': return sign >= '0' && sign <= '6';
                case 'S': return sign == '+' || sign == '-';
                default: return sign == kind;
            }
        }

        private static boolean isDigit(int sign) {
            return sign >= '0' && sign <= '9';
        }

        private static boolean hasSecondDigit(Pad pad, int first) {
            return pad.sign(first) != '0' && isDigit(pad.sign(first + 1));
        }

        static boolean beginsAt(Pad pad, int index) {
            return index == 0 || pad.sign(index - 1) == ';';
        }

        /** Carries out the order of a text without fault that begins at an index. */
        static int obey(Pad pad, int at, State state, Breath breath) {
            int first = digit(pad, at + 1);
            int second = digit(pad, at + 2);
            int third = digit(pad, at + 3);
            switch (pad.sign(at)) {
                case 'h': return Changes.takeFunnel(state, first, second);
                case 'p': return Changes.pourGrains(state, first, second, third, numberAt(pad, at + 5));
                case 's': return Changes.scrapeBare(state, first, second, third);
                case 't': return Changes.layPattern(state, first, colourRow(pad, at + 3));
                case 'b': return Changes.blow(state, breath, first, bit(pad.sign(at + 2) == '-'));
                default: return Changes.closeRing(state);
            }
        }

        private static int digit(Pad pad, int index) {
            return pad.sign(index) - '0';
        }

        private static int numberAt(Pad pad, int index) {
            int first = digit(pad, index);
            return hasSecondDigit(pad, index) ? first * 10 + digit(pad, index + 1) : first;
        }

        private static int colourRow(Pad pad, int index) {
            int colours = 0;
            for (int place = PLACES - 1; place >= 0; place--) colours = colours << 3 | digit(pad, index + place);
            return colours;
        }
    }
}
