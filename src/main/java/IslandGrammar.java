/**
 * An island grammar parser: it finds occurrences of known rules (islands) in a text whose other
 * parts (water) are skipped. What each method answers is said by ../shared/DOC.md.
 */
public final class IslandGrammar {
    public static final int NONE = -1;
    public static final int INVALID = -2;
    public static final int REJECTED = -3;
    public static final int FULL = -4;

    private static final int MAX_TEXT = 100;
    private static final int POSITIONS = MAX_TEXT + 1;
    private static final int RULES = 6;
    private static final int MAX_PATTERN = 8;
    private static final int MAX_SAVED = 4;
    private static final int ERROR_KINDS = 3;

    private static final int FIRST_BYTE = 32;
    private static final int LAST_BYTE = 126;

    private static final int DIGITS = '#';
    private static final int LETTERS = '@';
    private static final int WATER = '~';
    private static final int FIRST_REFERENCE = 'A';
    private static final int LAST_REFERENCE = 'F';

    private static final int NUMBER_BOUND = 1000000;
    private static final long DIGEST_START = 17305L;
    private static final long DIGEST_FACTOR = 31L;

    private final State state = new State();
    private final History history = new History();
    private final Row buffer = new Row(MAX_PATTERN);
    private final Row errors = new Row(ERROR_KINDS);
    private final Matcher matcher = new Matcher(state);
    private final Nodes nodes = new Nodes(state, matcher);
    private int bufferSize = 0;
    private boolean stale = true;

    public IslandGrammar() {
    }

    // ---- text

    public int insert(int position, int value) {
        if (position < 0 || position > state.textSize() || !isByte(value)) {
            return fail(INVALID);
        }
        if (state.textSize() >= MAX_TEXT) {
            return fail(FULL);
        }
        prepareChange();
        state.insertByte(position, value);
        return state.textSize();
    }

    public int replace(int position, int value) {
        if (!isInText(position) || !isByte(value)) {
            return fail(INVALID);
        }
        int previous = state.textAt(position);
        prepareChange();
        state.setByte(position, value);
        return previous;
    }

    public int delete(int position, int count) {
        // The count is compared with what is left, as position + count could overflow.
        if (!isInText(position) || count < 1 || count > state.textSize() - position) {
            return fail(INVALID);
        }
        prepareChange();
        state.removeBytes(position, count);
        return state.textSize();
    }

    public int length() {
        return state.textSize();
    }

    public int byteAt(int position) {
        return isInText(position) ? state.textAt(position) : fail(INVALID);
    }

    // ---- rules

    public int append(int value) {
        if (!isByte(value)) {
            return fail(INVALID);
        }
        if (bufferSize >= MAX_PATTERN) {
            return fail(FULL);
        }
        buffer.set(bufferSize, value);
        bufferSize++;
        return bufferSize;
    }

    public int clearPattern() {
        int previous = bufferSize;
        bufferSize = 0;
        return previous;
    }

    public int define(int rule) {
        if (!isRule(rule)) {
            return fail(INVALID);
        }
        if (bufferSize == 0 || !canStartPattern(buffer.get(0))) {
            return fail(REJECTED);
        }
        prepareChange();
        state.setPattern(rule, buffer, bufferSize);
        return bufferSize;
    }

    public int undefine(int rule) {
        if (!isRule(rule)) {
            return fail(INVALID);
        }
        int previous = state.patternSize(rule);
        prepareChange();
        state.setPattern(rule, buffer, 0);
        return previous;
    }

    public int setStop(int rule, int value) {
        if (!isRule(rule) || (value != NONE && !isByte(value))) {
            return fail(INVALID);
        }
        int previous = state.stopOf(rule);
        prepareChange();
        state.putStop(rule, value);
        return previous;
    }

    public int element(int rule, int index) {
        if (!isRule(rule) || index < 0) {
            return fail(INVALID);
        }
        return index < state.patternSize(rule) ? state.patternAt(rule, index) : NONE;
    }

    // ---- parse

    public int matchEnd(int rule, int position) {
        if (!isRule(rule) || position < 0 || position > state.textSize()) {
            return fail(INVALID);
        }
        refresh();
        return matcher.islandEnd(rule, position);
    }

    public int nodeCount() {
        refresh();
        return nodes.total();
    }

    public int islandCount() {
        refresh();
        return nodes.topLevelTotal();
    }

    public int nodeRule(int node) {
        refresh();
        return nodes.has(node) ? nodes.ruleOf(node) : fail(INVALID);
    }

    public int nodeStart(int node) {
        refresh();
        return nodes.has(node) ? nodes.startOf(node) : fail(INVALID);
    }

    public int nodeEnd(int node) {
        refresh();
        return nodes.has(node) ? nodes.endOf(node) : fail(INVALID);
    }

    public int nodeParent(int node) {
        refresh();
        return nodes.has(node) ? nodes.parentOf(node) : fail(INVALID);
    }

    public int nodeDepth(int node) {
        refresh();
        return nodes.has(node) ? nodes.depthOf(node) : fail(INVALID);
    }

    public int nodeWater(int node) {
        refresh();
        return nodes.has(node) ? nodes.waterOf(node) : fail(INVALID);
    }

    public int nodeNumber(int node) {
        refresh();
        return nodes.has(node) ? nodes.numberOf(node) : fail(INVALID);
    }

    public int nodeAt(int position) {
        if (!isInText(position)) {
            return fail(INVALID);
        }
        refresh();
        return nodes.innermostAt(position);
    }

    public int waterLength() {
        refresh();
        return nodes.topWater();
    }

    public int longestWater() {
        refresh();
        return nodes.longestTopWater();
    }

    public int countOf(int rule) {
        if (!isRule(rule)) {
            return fail(INVALID);
        }
        refresh();
        return nodes.totalOf(rule);
    }

    // ---- undo and errors

    public int undo() {
        if (history.savedCount() == 0) {
            return fail(REJECTED);
        }
        history.restore(state);
        stale = true;
        return history.savedCount();
    }

    public int errorCount(int kind) {
        return kind >= 0 && kind < ERROR_KINDS ? errors.get(kind) : fail(INVALID);
    }

    public long digest() {
        refresh();
        long hash = errors.mixInto(DIGEST_START, 0, ERROR_KINDS);
        hash = mix(hash, bufferSize);
        hash = mix(hash, history.savedCount());
        hash = state.mixInto(hash);
        return nodes.mixInto(hash);
    }

    // ---- helpers

    private static boolean isByte(int value) {
        return value >= FIRST_BYTE && value <= LAST_BYTE;
    }

    private static boolean isRule(int rule) {
        return rule >= 0 && rule < RULES;
    }

    private static boolean isReference(int element) {
        return element >= FIRST_REFERENCE && element <= LAST_REFERENCE;
    }

    private static boolean canStartPattern(int element) {
        return element != WATER && !isReference(element);
    }

    private static boolean isDigit(int value) {
        return value >= '0' && value <= '9';
    }

    private static boolean isLetter(int value) {
        return value >= 'a' && value <= 'z';
    }

    private static long mix(long hash, long value) {
        return DIGEST_FACTOR * hash + value;
    }

    private boolean isInText(int position) {
        return position >= 0 && position < state.textSize();
    }

    private int fail(int error) {
        // The error codes fall from INVALID on, as their counters rise from 0 on.
        int kind = INVALID - error;
        errors.set(kind, errors.get(kind) + 1);
        return error;
    }

    private void prepareChange() {
        history.save(state);
        stale = true;
    }

    /** Matching and parsing wait until an answer needs them, as many changes may come in a row. */
    private void refresh() {
        if (stale) {
            matcher.update();
            nodes.update();
            stale = false;
        }
    }

    /** Numbers in a row: a place outside of it reads as NONE and takes nothing. */
    private static final class Row {
        private final int[] cells;

        Row(int size) {
            cells = new int[size > 0 ? size : 0];
        }

        int get(int index) {
            return index >= 0 && index < cells.length ? cells[index] : NONE;
        }

        void set(int index, int value) {
            if (index >= 0 && index < cells.length) {
                cells[index] = value;
            }
        }

        void fill(int value) {
            for (int index = 0; index < cells.length; index++) {
                cells[index] = value;
            }
        }

        void copyFrom(Row other) {
            int count = Math.min(cells.length, other.cells.length);
            for (int index = 0; index < count; index++) {
                cells[index] = other.cells[index];
            }
        }

        long mixInto(long hash, int from, int count) {
            long mixed = hash;
            for (int index = 0; index < count; index++) {
                mixed = mix(mixed, get(from + index));
            }
            return mixed;
        }
    }

    /** What an undoable call saves: the text, the rules and their stop bytes. */
    private static final class State {
        private final Row text = new Row(MAX_TEXT);
        private final Row patternSizes = new Row(RULES);
        private final Row patterns = new Row(RULES * MAX_PATTERN);
        private final Row stops = new Row(RULES);
        private int textSize = 0;

        State() {
            stops.fill(NONE);
        }

        int textSize() {
            return textSize;
        }

        /** The byte at a position, or NONE at the end of the text, which no element matches. */
        int textAt(int position) {
            return position < textSize ? text.get(position) : NONE;
        }

        void insertByte(int position, int value) {
            for (int index = textSize; index > position; index--) {
                text.set(index, text.get(index - 1));
            }
            text.set(position, value);
            textSize++;
        }

        void setByte(int position, int value) {
            text.set(position, value);
        }

        void removeBytes(int position, int count) {
            textSize -= count;
            for (int index = position; index < textSize; index++) {
                text.set(index, text.get(index + count));
            }
        }

        /** The number that the digits between two positions write, modulo NUMBER_BOUND. */
        int numberBetween(int start, int end) {
            int number = 0;
            for (int position = start; position < end; position++) {
                number = (number * 10 + textAt(position) - '0') % NUMBER_BOUND;
            }
            return number;
        }

        /** The number of elements of a rule, 0 if it is undefined. */
        int patternSize(int rule) {
            return patternSizes.get(rule);
        }

        int patternAt(int rule, int index) {
            return patterns.get(rule * MAX_PATTERN + index);
        }

        void setPattern(int rule, Row source, int size) {
            patternSizes.set(rule, size);
            for (int index = 0; index < size; index++) {
                patterns.set(rule * MAX_PATTERN + index, source.get(index));
            }
        }

        int stopOf(int rule) {
            return stops.get(rule);
        }

        void putStop(int rule, int value) {
            stops.set(rule, value);
        }

        void copyFrom(State other) {
            textSize = other.textSize;
            text.copyFrom(other.text);
            patternSizes.copyFrom(other.patternSizes);
            patterns.copyFrom(other.patterns);
            stops.copyFrom(other.stops);
        }

        long mixInto(long hash) {
            long mixed = text.mixInto(mix(hash, textSize), 0, textSize);
            for (int rule = 0; rule < RULES; rule++) {
                int size = patternSize(rule);
                mixed = patterns.mixInto(mix(mixed, size), rule * MAX_PATTERN, size);
                mixed = mix(mixed, stopOf(rule));
            }
            return mixed;
        }
    }

    /** The latest saved states, in a ring that overwrites the oldest one. */
    private static final class History {
        private final State[] ring = {new State(), new State(), new State(), new State()};
        private int next = 0;
        private int count = 0;

        int savedCount() {
            return count;
        }

        void save(State state) {
            slotAt(next).copyFrom(state);
            next = next + 1 < MAX_SAVED ? next + 1 : 0;
            count = Math.min(count + 1, MAX_SAVED);
        }

        /** Takes the latest saved state off the ring; asked only where there is one. */
        void restore(State state) {
            next = next > 0 ? next - 1 : MAX_SAVED - 1;
            state.copyFrom(slotAt(next));
            count = Math.max(count - 1, 0);
        }

        private State slotAt(int index) {
            return ring[index >= 0 && index < ring.length ? index : 0];
        }
    }

    /** Where each rule ends whose elements from an index on begin at a position, NONE if they fail. */
    private static final class EndTable {
        private static final int INDEXES = MAX_PATTERN + 1;

        private final int[] cells = new int[RULES * INDEXES * POSITIONS];

        /** An element that fails ends at NONE, and what comes behind it fails, too. */
        int get(int rule, int index, int position) {
            int cell = (rule * INDEXES + index) * POSITIONS + position;
            return position >= 0 && cell >= 0 && cell < cells.length ? cells[cell] : NONE;
        }

        void set(int rule, int index, int position, int end) {
            int cell = (rule * INDEXES + index) * POSITIONS + position;
            if (position >= 0 && cell >= 0 && cell < cells.length) {
                cells[cell] = end;
            }
        }
    }

    /**
     * Where the rules match. A match depends only on later elements at the same position and on
     * matches at later positions, as the first element of a pattern is never empty. So the table
     * is filled from the end of the text to its start, and no call calls itself.
     */
    private static final class Matcher {
        private final State state;
        private final Row digitEnds = new Row(POSITIONS);
        private final Row letterEnds = new Row(POSITIONS);
        private final Row firstRules = new Row(POSITIONS);
        private final EndTable restEnds = new EndTable();

        Matcher(State state) {
            this.state = state;
        }

        void update() {
            for (int position = state.textSize(); position >= 0; position--) {
                markRuns(position);
                matchIslands(position);
                for (int rule = 0; rule < RULES; rule++) {
                    matchRests(rule, position);
                }
            }
        }

        /** The end of the island of a rule at a position, or NONE. */
        int islandEnd(int rule, int position) {
            return restEnds.get(rule, 0, position);
        }

        /** The lowest rule that matches at a position, or NONE. */
        int firstRule(int position) {
            return firstRules.get(position);
        }

        boolean restMatches(int rule, int index, int position) {
            return restEnds.get(rule, index, position) != NONE;
        }

        /** The end of one element at a position, or NONE; the element is not WATER. */
        int elementEnd(int element, int position) {
            if (element == DIGITS) {
                return digitEnds.get(position);
            }
            if (element == LETTERS) {
                return letterEnds.get(position);
            }
            if (isReference(element)) {
                return restEnds.get(element - FIRST_REFERENCE, 0, position);
            }
            return state.textAt(position) == element ? position + 1 : NONE;
        }

        private void markRuns(int position) {
            int value = state.textAt(position);
            digitEnds.set(position, isDigit(value) ? runEnd(digitEnds, position) : NONE);
            letterEnds.set(position, isLetter(value) ? runEnd(letterEnds, position) : NONE);
        }

        private static int runEnd(Row ends, int position) {
            int endOfNext = ends.get(position + 1);
            return endOfNext == NONE ? position + 1 : endOfNext;
        }

        /** Whole islands come before the rests, which may refer to islands at the same position. */
        private void matchIslands(int position) {
            firstRules.set(position, NONE);
            for (int rule = RULES - 1; rule >= 0; rule--) {
                int end = NONE;
                if (state.patternSize(rule) > 0) {
                    int next = elementEnd(state.patternAt(rule, 0), position);
                    end = restEnds.get(rule, 1, next);
                }
                restEnds.set(rule, 0, position, end);
                if (end != NONE) {
                    firstRules.set(position, rule);
                }
            }
        }

        private void matchRests(int rule, int position) {
            int size = state.patternSize(rule);
            if (size > 0) {
                restEnds.set(rule, size, position, position);
            }
            for (int index = size - 1; index > 0; index--) {
                int element = state.patternAt(rule, index);
                int end = element == WATER
                        ? waterRestEnd(rule, index, position)
                        : restEnds.get(rule, index + 1, elementEnd(element, position));
                restEnds.set(rule, index, position, end);
            }
        }

        /** Where the rule ends whose WATER at an index has come to a position. */
        private int waterRestEnd(int rule, int index, int position) {
            int end = restEnds.get(rule, index + 1, position);
            if (end != NONE) {
                return end;
            }
            int nested = firstRules.get(position);
            if (nested != NONE) {
                return restEnds.get(rule, index, restEnds.get(nested, 0, position));
            }
            int value = state.textAt(position);
            if (value == NONE || value == state.stopOf(rule)) {
                return NONE;
            }
            return restEnds.get(rule, index, position + 1);
        }
    }

    /** The nodes of the parse, numbered by rising start, and the top-level water. */
    private static final class Nodes {
        private final State state;
        private final Matcher matcher;
        private final Row rules = new Row(MAX_TEXT);
        private final Row starts = new Row(MAX_TEXT);
        private final Row ends = new Row(MAX_TEXT);
        private final Row parents = new Row(MAX_TEXT);
        private final Row depths = new Row(MAX_TEXT);
        private final Row waters = new Row(MAX_TEXT);
        private final Row numbers = new Row(MAX_TEXT);
        private final Row dueRules = new Row(MAX_TEXT);
        private final Row dueParents = new Row(MAX_TEXT);
        private int count = 0;
        private int topIslands = 0;
        private int topWater = 0;
        private int waterRun = 0;
        private int longestRun = 0;

        Nodes(State state, Matcher matcher) {
            this.state = state;
            this.matcher = matcher;
        }

        /**
         * A node is announced at its start by its parent or by the top level and gets its number
         * when the sweep comes there: so the numbers rise with the starts.
         */
        void update() {
            clear();
            int topEnd = 0;
            int textSize = state.textSize();
            for (int position = 0; position < textSize; position++) {
                if (position == topEnd) {
                    topEnd = takeTopLevel(position);
                }
                if (dueRules.get(position) != NONE) {
                    addNode(position);
                    walkPattern(count - 1);
                }
            }
        }

        int total() {
            return count;
        }

        boolean has(int node) {
            return node >= 0 && node < count;
        }

        int topLevelTotal() {
            return topIslands;
        }

        int topWater() {
            return topWater;
        }

        int longestTopWater() {
            return longestRun;
        }

        int ruleOf(int node) {
            return rules.get(node);
        }

        int startOf(int node) {
            return starts.get(node);
        }

        int endOf(int node) {
            return ends.get(node);
        }

        int parentOf(int node) {
            return parents.get(node);
        }

        int depthOf(int node) {
            return depths.get(node);
        }

        int waterOf(int node) {
            return waters.get(node);
        }

        int numberOf(int node) {
            return numbers.get(node);
        }

        int totalOf(int rule) {
            int total = 0;
            for (int node = 0; node < count; node++) {
                if (rules.get(node) == rule) {
                    total++;
                }
            }
            return total;
        }

        /** Of the nodes that contain a position, the innermost one starts last. */
        int innermostAt(int position) {
            for (int node = count - 1; node >= 0; node--) {
                if (starts.get(node) <= position && position < ends.get(node)) {
                    return node;
                }
            }
            return NONE;
        }

        long mixInto(long hash) {
            long mixed = mix(hash, count);
            for (int node = 0; node < count; node++) {
                mixed = mix(mixed, rules.get(node));
                mixed = mix(mixed, starts.get(node));
                mixed = mix(mixed, ends.get(node));
                mixed = mix(mixed, parents.get(node));
                mixed = mix(mixed, waters.get(node));
                mixed = mix(mixed, numbers.get(node));
            }
            return mix(mix(mixed, topWater), longestRun);
        }

        private void clear() {
            dueRules.fill(NONE);
            count = 0;
            topIslands = 0;
            topWater = 0;
            waterRun = 0;
            longestRun = 0;
        }

        /** Takes the top-level island or the byte of water at a position and tells where it ends. */
        private int takeTopLevel(int position) {
            int rule = matcher.firstRule(position);
            if (rule == NONE) {
                topWater++;
                waterRun++;
                longestRun = Math.max(longestRun, waterRun);
                return position + 1;
            }
            waterRun = 0;
            topIslands++;
            announce(position, rule, NONE);
            return matcher.islandEnd(rule, position);
        }

        private void announce(int start, int rule, int parent) {
            dueRules.set(start, rule);
            dueParents.set(start, parent);
        }

        private void addNode(int start) {
            int rule = dueRules.get(start);
            int parent = dueParents.get(start);
            rules.set(count, rule);
            starts.set(count, start);
            ends.set(count, matcher.islandEnd(rule, start));
            parents.set(count, parent);
            depths.set(count, parent == NONE ? 0 : depths.get(parent) + 1);
            waters.set(count, 0);
            numbers.set(count, NONE);
            count++;
        }

        private void walkPattern(int node) {
            int rule = rules.get(node);
            int size = state.patternSize(rule);
            int end = starts.get(node);
            for (int index = 0; index < size; index++) {
                int element = state.patternAt(rule, index);
                int start = end;
                end = element == WATER
                        ? walkWater(node, index, start)
                        : matcher.elementEnd(element, start);
                if (isReference(element)) {
                    announce(start, element - FIRST_REFERENCE, node);
                }
                if (element == DIGITS && numbers.get(node) == NONE) {
                    numbers.set(node, state.numberBetween(start, end));
                }
            }
        }

        /** The pattern is known to match here: no stop byte and no end of the text is in the way. */
        private int walkWater(int node, int index, int start) {
            int rule = rules.get(node);
            int position = start;
            // Each step takes a byte or more, so the text is behind after MAX_TEXT steps.
            for (int step = 0; step < MAX_TEXT; step++) {
                if (matcher.restMatches(rule, index + 1, position)) {
                    break;
                }
                int nested = matcher.firstRule(position);
                if (nested == NONE) {
                    waters.set(node, waters.get(node) + 1);
                    position++;
                } else {
                    announce(position, nested, node);
                    position = matcher.islandEnd(nested, position);
                }
            }
            return position;
        }
    }
}
