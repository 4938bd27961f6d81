import java.util.Arrays;

/**
 * Vectors that never change, but are made out of one another and share blocks.
 *
 * A row that stands in a vector or in the edit is never changed any more: each act makes a copy
 * and puts that in its place. So a state is only a list of references, and can be recorded cheaply.
 */
public final class TailVectors {
    public static final int UNKNOWN = -1;
    public static final int BAD_VALUE = -2;
    public static final int FULL = -3;
    public static final int NOT_POSSIBLE = -4;
    public static final int NONE = -5;

    private static final int MOST_VECTORS = 24;
    private static final int MOST_VALUES = 300;
    private static final int GREATEST_VALUE = 999;
    private static final int MOST_CHARACTERS = 60;
    private static final int MOST_DIGITS = 3;
    private static final int MOST_STATES = 4;
    private static final int NO_FAULT = -1;
    private static final int FAULT_BASE = -100;

    private static final int TAIL_SIZE = 4;
    private static final int TOP_LEVEL = 4;
    private static final int SLOTS = 101;
    /** Above all numbers of blocks: without an edit, no block is anybody's own. */
    private static final int NOTHING_OWN = 0x7fffffff;

    /** Where the slots of each level begin: 300 values need 74 leaves, then 19, 5, 2 and 1 blocks. */
    private static final int[] LEVEL_STARTS = {0, 74, 93, 98, 100, 101};

    private final State now;
    private final State snapshot;
    private boolean hasSnapshot;
    private final History history;
    private final Text text;
    /** Changes that are only asked about are tried on it, so that asking takes no room. */
    private final Row trial;

    public TailVectors() {
        now = new State();
        snapshot = new State();
        hasSnapshot = false;
        history = new History();
        text = new Text();
        trial = new Row(MOST_VALUES);
        now.addView(new View(new Row(0), false, 0, 0));
    }

    // ---- vectors out of vectors

    public int push(int vector, int value) {
        View view = now.viewOf(vector);
        if (view == null) {
            return UNKNOWN;
        }
        if (!isValue(value)) {
            return BAD_VALUE;
        }
        if (now.isFull() || view.end() >= MOST_VALUES) {
            return FULL;
        }
        history.remember(now);
        Row row = now.rowWith(view.row, view.end(), value);
        return now.addView(new View(row, view.window, view.first, view.many + 1));
    }

    public int set(int vector, int place, int value) {
        View view = now.viewOf(vector);
        if (view == null || !view.shows(place)) {
            return UNKNOWN;
        }
        if (!isValue(value)) {
            return BAD_VALUE;
        }
        if (now.isFull()) {
            return FULL;
        }
        history.remember(now);
        Row row = now.rowWith(view.row, view.first + place, value);
        return now.addView(new View(row, view.window, view.first, view.many));
    }

    public int pop(int vector) {
        View view = now.viewOf(vector);
        if (view == null) {
            return UNKNOWN;
        }
        if (view.many == 0) {
            return NOT_POSSIBLE;
        }
        if (now.isFull()) {
            return FULL;
        }
        history.remember(now);
        Row row = view.window ? view.row : now.rowWithoutLast(view.row);
        return now.addView(new View(row, view.window, view.first, view.many - 1));
    }

    public int window(int vector, int first, int many) {
        View view = now.viewOf(vector);
        if (view == null) {
            return UNKNOWN;
        }
        if (first < 0 || first > view.many || many < 0 || many > view.many - first) {
            return BAD_VALUE;
        }
        if (now.isFull()) {
            return FULL;
        }
        history.remember(now);
        return now.addView(new View(view.row, true, view.first + first, many));
    }

    public int drop(int vector) {
        if (now.viewOf(vector) == null) {
            return UNKNOWN;
        }
        history.remember(now);
        now.removeView(vector);
        return now.viewsLeft();
    }

    // ---- the edit

    public int begin(int vector) {
        View view = now.viewOf(vector);
        if (view == null) {
            return UNKNOWN;
        }
        if (now.editRow != null || view.window) {
            return NOT_POSSIBLE;
        }
        history.remember(now);
        now.beginEdit(view.row);
        return view.row.length;
    }

    public int editPush(int value) {
        Row row = now.editRow;
        if (row == null) {
            return NOT_POSSIBLE;
        }
        if (!isValue(value)) {
            return BAD_VALUE;
        }
        if (row.length >= MOST_VALUES) {
            return FULL;
        }
        history.remember(now);
        return now.editWrite(row, row.length, value);
    }

    public int editSet(int place, int value) {
        Row row = now.editRow;
        if (row == null) {
            return NOT_POSSIBLE;
        }
        if (place < 0 || place >= row.length) {
            return UNKNOWN;
        }
        if (!isValue(value)) {
            return BAD_VALUE;
        }
        history.remember(now);
        return now.editWrite(row, place, value);
    }

    public int editPop() {
        Row row = now.editRow;
        if (row == null || row.length == 0) {
            return NOT_POSSIBLE;
        }
        history.remember(now);
        return now.editRemoveLast(row);
    }

    public int editRead() {
        Row row = now.editRow;
        if (row == null) {
            return NOT_POSSIBLE;
        }
        int fault = text.fault();
        if (fault != NO_FAULT) {
            return FAULT_BASE - fault;
        }
        int[] values = text.values();
        if (row.length + values.length > MOST_VALUES) {
            return FULL;
        }
        history.remember(now);
        return now.editAppendAll(row, values);
    }

    public int finish() {
        Row row = now.editRow;
        if (row == null) {
            return NOT_POSSIBLE;
        }
        if (now.isFull()) {
            return FULL;
        }
        history.remember(now);
        now.endEdit();
        return now.addView(new View(row, false, 0, row.length));
    }

    public int abandon() {
        Row row = now.editRow;
        if (row == null) {
            return NOT_POSSIBLE;
        }
        history.remember(now);
        now.endEdit();
        return row.length;
    }

    // ---- texts

    public int type(char character) {
        return text.add(character) ? text.length : FULL;
    }

    public int clearText() {
        int length = text.length;
        text.empty();
        return length;
    }

    // ---- history

    public int undo() {
        if (history.many == 0) {
            return NONE;
        }
        history.takeBack(now);
        return history.many;
    }

    public int keep() {
        snapshot.copyFrom(now);
        hasSnapshot = true;
        return now.made;
    }

    public int restore() {
        if (!hasSnapshot) {
            return NONE;
        }
        history.remember(now);
        now.copyFrom(snapshot);
        return now.made;
    }

    // ---- what is told

    public int get(int vector, int place) {
        View view = now.viewOf(vector);
        if (view == null || !view.shows(place)) {
            return UNKNOWN;
        }
        return view.valueAt(place);
    }

    public int vector(int vector, int what) {
        View view = now.viewOf(vector);
        if (view == null) {
            return UNKNOWN;
        }
        switch (what) {
            case 0: return view.many;
            case 1: return view.window ? 1 : 0;
            case 2: return view.first;
            case 3: return view.row.length;
            case 4: return view.row.leaves();
            case 5: return view.row.blocks();
            case 6: return rootLevel(view.row.leaves());
            case 7: return view.row.tail();
            case 8: return view.sum();
            case 9: return view.greatest();
            default: return BAD_VALUE;
        }
    }

    public int block(int vector, int level, int place) {
        View view = now.viewOf(vector);
        if (view == null) {
            return UNKNOWN;
        }
        if (level < 0 || place < 0) {
            return BAD_VALUE;
        }
        return view.row.numberAt(level, place);
    }

    public int shared(int vector, int other) {
        View view = now.viewOf(vector);
        View otherView = now.viewOf(other);
        if (view == null || otherView == null) {
            return UNKNOWN;
        }
        return view.row.sharedWith(otherView.row);
    }

    public int differ(int vector, int other) {
        View view = now.viewOf(vector);
        View otherView = now.viewOf(other);
        if (view == null || otherView == null) {
            return UNKNOWN;
        }
        return view.firstDifference(otherView);
    }

    public int find(int vector, int value, int from) {
        View view = now.viewOf(vector);
        if (view == null) {
            return UNKNOWN;
        }
        if (from < 0) {
            return BAD_VALUE;
        }
        return view.placeOf(value, from);
    }

    public int wouldMake(int vector, int what) {
        View view = now.viewOf(vector);
        if (view == null) {
            return UNKNOWN;
        }
        if (what < 0 || what > 2) {
            return BAD_VALUE;
        }
        int length = view.row.length;
        if (view.window || (what == 0 ? length >= MOST_VALUES : length == 0)) {
            return NOT_POSSIBLE;
        }
        trial.copyFrom(view.row);
        switch (what) {
            case 0: return trial.write(length, 0, now.made, NOTHING_OWN);
            case 1: return trial.removeLast(now.made, NOTHING_OWN);
            default: return trial.write(0, 0, now.made, NOTHING_OWN);
        }
    }

    public int edit(int what) {
        if (what < 0 || what > 4) {
            return BAD_VALUE;
        }
        Row row = now.editRow;
        if (row == null) {
            return NOT_POSSIBLE;
        }
        switch (what) {
            case 0: return row.length;
            case 1: return row.blocksFrom(now.firstOwn);
            case 2: return row.blocks();
            case 3: return row.blocks() - now.blocksNotIn(MOST_VECTORS, row);
            default: return row.numberAt(rootLevel(row.leaves()), 0);
        }
    }

    public int count(int what) {
        switch (what) {
            case 0: return now.ever;
            case 1: return now.viewsLeft();
            case 2: return now.made;
            case 3: return now.blocksInUse();
            case 4: return now.made - now.blocksInUse();
            case 5: return now.editRow != null ? 1 : 0;
            case 6: return now.valuesShown();
            case 7: return history.many;
            case 8: return text.length;
            default: return BAD_VALUE;
        }
    }

    private static boolean isValue(int value) {
        return value >= 0 && value <= GREATEST_VALUE;
    }

    /** The level of the root over so many leaves; NONE if there are no leaves. */
    private static int rootLevel(int leaves) {
        if (leaves <= 0) {
            return NONE;
        }
        int level = 1;
        while (level < TOP_LEVEL && (1 << (2 * level)) < leaves) {
            level++;
        }
        return level;
    }

    /**
     * Values, and the numbers of the blocks that hold them.
     *
     * The shape of the tree follows from the length, so only the numbers are kept: one slot for
     * each level and place. A block never moves: every row that has it has it in the same slot.
     */
    private static final class Row {
        final int[] values;
        final int[] numbers;
        int length;

        Row(int room) {
            values = new int[Math.max(0, Math.min(room, MOST_VALUES))];
            numbers = new int[SLOTS];
            Arrays.fill(numbers, NONE);
            length = 0;
        }

        /** A copy that has room for some values more. */
        Row copy(int more) {
            Row copy = new Row(length + more);
            copy.copyFrom(this);
            return copy;
        }

        void copyFrom(Row other) {
            int many = Math.min(other.length, Math.min(values.length, other.values.length));
            for (int i = 0; i < many; i++) {
                values[i] = other.values[i];
            }
            for (int i = 0; i < SLOTS; i++) {
                numbers[i] = other.numbers[i];
            }
            length = many;
        }

        int leaves() {
            return length == 0 ? 0 : (length - 1) / TAIL_SIZE;
        }

        int tail() {
            return length - leaves() * TAIL_SIZE;
        }

        /** The slot of a block; -1 where no row can have one. */
        static int slotOf(int level, int place) {
            if (level < 0 || level > TOP_LEVEL || place < 0) {
                return -1;
            }
            int start = LEVEL_STARTS[level];
            return place < LEVEL_STARTS[level + 1] - start ? start + place : -1;
        }

        int numberAt(int level, int place) {
            int slot = slotOf(level, place);
            return slot < 0 ? NONE : numbers[slot];
        }

        /** Puts a value at a place, or behind the last one; tells how many blocks are made. */
        int write(int place, int value, int next, int firstOwn) {
            if (place < 0 || place > length || place >= values.length) {
                return 0;
            }
            int made = 0;
            if (place == length) {
                made = tail() == TAIL_SIZE ? hangTail(next, firstOwn) : 0;
                length++;
            } else if (place / TAIL_SIZE < leaves()) {
                made = makePath(place / TAIL_SIZE, rootLevel(leaves()), next, firstOwn);
            }
            values[place] = value;
            return made;
        }

        private int hangTail(int next, int firstOwn) {
            int leaf = leaves();
            return makePath(leaf, rootLevel(leaf + 1), next, firstOwn);
        }

        /** Makes a leaf and the blocks above it, up to a level. */
        private int makePath(int leaf, int root, int next, int firstOwn) {
            int made = 0;
            for (int level = 0; level <= root; level++) {
                made += makeBlock(slotOf(level, leaf >> (2 * level)), next + made, firstOwn);
            }
            return made;
        }

        /** Numbers a block that is made; one that is the edit's own keeps its number. */
        private int makeBlock(int slot, int number, int firstOwn) {
            if (slot < 0 || slot >= SLOTS || numbers[slot] >= firstOwn) {
                return 0;
            }
            numbers[slot] = number;
            return 1;
        }

        /** Takes the last value away; tells how many blocks are made. */
        int removeLast(int next, int firstOwn) {
            if (length == 0) {
                return 0;
            }
            int made = tail() == 1 ? takeLastLeaf(next, firstOwn) : 0;
            length--;
            return made;
        }

        private int takeLastLeaf(int next, int firstOwn) {
            int last = leaves() - 1;
            int root = rootLevel(leaves());
            int rootThen = rootLevel(last);
            int made = 0;
            for (int level = 0; level <= root; level++) {
                int slot = slotOf(level, last >> (2 * level));
                if (level > rootThen || isFirstLeafOfBlock(last, level)) {
                    removeBlock(slot);
                } else {
                    made += makeBlock(slot, next + made, firstOwn);
                }
            }
            return made;
        }

        private static boolean isFirstLeafOfBlock(int leaf, int level) {
            return (leaf & ((1 << (2 * level)) - 1)) == 0;
        }

        private void removeBlock(int slot) {
            if (slot >= 0 && slot < SLOTS) {
                numbers[slot] = NONE;
            }
        }

        int blocks() {
            return blocksFrom(0);
        }

        /** How many blocks have this number or a greater one. */
        int blocksFrom(int number) {
            int many = 0;
            for (int slot = 0; slot < SLOTS; slot++) {
                if (numbers[slot] >= number) {
                    many++;
                }
            }
            return many;
        }

        boolean has(int slot, int number) {
            return slot >= 0 && slot < SLOTS && number >= 0 && numbers[slot] == number;
        }

        int sharedWith(Row other) {
            int many = 0;
            for (int slot = 0; slot < SLOTS; slot++) {
                if (other.has(slot, numbers[slot])) {
                    many++;
                }
            }
            return many;
        }
    }

    /** A vector: a row and what is shown of it. It is never changed. */
    private static final class View {
        final Row row;
        final boolean window;
        final int first;
        final int many;

        View(Row row, boolean window, int first, int many) {
            this.row = row;
            this.window = window;
            this.first = first;
            this.many = many;
        }

        /** The place in the row behind the last value that is shown. */
        int end() {
            return first + many;
        }

        boolean shows(int place) {
            return place >= 0 && place < many;
        }

        int valueAt(int place) {
            int inRow = first + place;
            return inRow >= 0 && inRow < row.values.length ? row.values[inRow] : NONE;
        }

        int sum() {
            int sum = 0;
            for (int place = 0; place < many; place++) {
                sum += valueAt(place);
            }
            return sum;
        }

        int greatest() {
            int greatest = NONE;
            for (int place = 0; place < many; place++) {
                greatest = Math.max(greatest, valueAt(place));
            }
            return greatest;
        }

        int firstDifference(View other) {
            int both = Math.min(many, other.many);
            for (int place = 0; place < both; place++) {
                if (valueAt(place) != other.valueAt(place)) {
                    return place;
                }
            }
            return many == other.many ? NONE : both;
        }

        int placeOf(int value, int from) {
            for (int place = from; place < many; place++) {
                if (valueAt(place) == value) {
                    return place;
                }
            }
            return NONE;
        }
    }

    /** All that undo and the snapshot bring back. */
    private static final class State {
        final View[] views;
        int ever;
        int made;
        /** The row of the edit; null if there is no edit. */
        Row editRow;
        /** The blocks of the edit's row from this number on are its own. */
        int firstOwn;

        State() {
            views = new View[MOST_VECTORS];
            ever = 0;
            made = 0;
            editRow = null;
            firstOwn = NOTHING_OWN;
        }

        void copyFrom(State other) {
            for (int i = 0; i < MOST_VECTORS; i++) {
                views[i] = other.views[i];
            }
            ever = other.ever;
            made = other.made;
            editRow = other.editRow;
            firstOwn = other.firstOwn;
        }

        boolean isFull() {
            return ever >= MOST_VECTORS;
        }

        View viewOf(int vector) {
            return vector >= 0 && vector < MOST_VECTORS ? views[vector] : null;
        }

        int addView(View view) {
            if (ever < 0 || ever >= MOST_VECTORS) {
                return FULL;
            }
            views[ever] = view;
            ever++;
            return ever - 1;
        }

        void removeView(int vector) {
            if (vector >= 0 && vector < MOST_VECTORS) {
                views[vector] = null;
            }
        }

        int viewsLeft() {
            int many = 0;
            for (int i = 0; i < MOST_VECTORS; i++) {
                if (views[i] != null) {
                    many++;
                }
            }
            return many;
        }

        int valuesShown() {
            int many = 0;
            for (int i = 0; i < MOST_VECTORS; i++) {
                View view = views[i];
                many += view == null ? 0 : view.many;
            }
            return many;
        }

        Row rowWith(Row row, int place, int value) {
            Row changed = row.copy(1);
            made += changed.write(place, value, made, NOTHING_OWN);
            return changed;
        }

        Row rowWithoutLast(Row row) {
            Row changed = row.copy(0);
            made += changed.removeLast(made, NOTHING_OWN);
            return changed;
        }

        void beginEdit(Row row) {
            editRow = row;
            firstOwn = made;
        }

        void endEdit() {
            editRow = null;
            firstOwn = NOTHING_OWN;
        }

        int editWrite(Row row, int place, int value) {
            Row changed = row.copy(1);
            return takeEditRow(changed, changed.write(place, value, made, firstOwn));
        }

        int editRemoveLast(Row row) {
            Row changed = row.copy(0);
            return takeEditRow(changed, changed.removeLast(made, firstOwn));
        }

        int editAppendAll(Row row, int[] values) {
            Row changed = row.copy(values.length);
            int blocks = 0;
            for (int value : values) {
                blocks += changed.write(changed.length, value, made + blocks, firstOwn);
            }
            return takeEditRow(changed, blocks);
        }

        private int takeEditRow(Row row, int blocks) {
            editRow = row;
            made += blocks;
            return blocks;
        }

        /** The rows of all vectors by their numbers, and behind them that of the edit; null for none. */
        private Row rowAt(int i) {
            View view = viewOf(i);
            if (view != null) {
                return view.row;
            }
            return i == MOST_VECTORS ? editRow : null;
        }

        int blocksInUse() {
            int many = 0;
            for (int i = 0; i <= MOST_VECTORS; i++) {
                Row row = rowAt(i);
                many += row == null ? 0 : blocksNotIn(i, row);
            }
            return many;
        }

        /** How many blocks of a row none of the first rows has. */
        int blocksNotIn(int rows, Row row) {
            int many = 0;
            for (int slot = 0; slot < SLOTS; slot++) {
                int number = row.numbers[slot];
                if (number >= 0 && !isInOne(rows, slot, number)) {
                    many++;
                }
            }
            return many;
        }

        private boolean isInOne(int rows, int slot, int number) {
            for (int i = 0; i < rows; i++) {
                Row row = rowAt(i);
                if (row != null && row.has(slot, number)) {
                    return true;
                }
            }
            return false;
        }
    }

    /** The latest states, the oldest one first. */
    private static final class History {
        final State[] states;
        int many;

        History() {
            states = new State[MOST_STATES];
            for (int i = 0; i < MOST_STATES; i++) {
                states[i] = new State();
            }
            many = 0;
        }

        void remember(State state) {
            if (many >= MOST_STATES) {
                forgetOldest();
            }
            State latest = stateAt(many);
            if (latest != null) {
                latest.copyFrom(state);
                many++;
            }
        }

        void takeBack(State state) {
            State latest = stateAt(many - 1);
            if (latest != null) {
                state.copyFrom(latest);
                many--;
            }
        }

        private State stateAt(int i) {
            return i >= 0 && i < MOST_STATES ? states[i] : null;
        }

        /** The oldest state's object goes behind the others, to be used again. */
        private void forgetOldest() {
            State oldest = states[0];
            for (int i = 1; i < MOST_STATES; i++) {
                states[i - 1] = states[i];
            }
            states[MOST_STATES - 1] = oldest;
            many = MOST_STATES - 1;
        }
    }

    /** The text that is typed, and the values that are read from it. */
    private static final class Text {
        final char[] characters;
        int length;

        Text() {
            characters = new char[MOST_CHARACTERS];
            length = 0;
        }

        boolean add(char character) {
            if (length < 0 || length >= MOST_CHARACTERS) {
                return false;
            }
            characters[length] = character;
            length++;
            return true;
        }

        void empty() {
            length = 0;
        }

        private char characterAt(int i) {
            return i >= 0 && i < MOST_CHARACTERS ? characters[i] : 0;
        }

        private static boolean isDigit(char character) {
            return character >= '0' && character <= '9';
        }

        /** The index of the first fault; NO_FAULT if the text is a row of values. */
        int fault() {
            int digits = 0;
            for (int i = 0; i < length; i++) {
                char character = characterAt(i);
                if (isDigit(character)) {
                    boolean behindZero = digits == 1 && characterAt(i - 1) == '0';
                    if (behindZero || digits == MOST_DIGITS) {
                        return i;
                    }
                    digits++;
                } else if (character == ',' && digits > 0) {
                    digits = 0;
                } else {
                    return i;
                }
            }
            return digits == 0 ? length : NO_FAULT;
        }

        /** The values of a text without a fault. */
        int[] values() {
            int[] values = new int[commas() + 1];
            int at = 0;
            for (int i = 0; i < length; i++) {
                char character = characterAt(i);
                if (character == ',') {
                    at++;
                } else if (at < values.length) {
                    values[at] = values[at] * 10 + (character - '0');
                }
            }
            return values;
        }

        private int commas() {
            int many = 0;
            for (int i = 0; i < length; i++) {
                if (characterAt(i) == ',') {
                    many++;
                }
            }
            return many;
        }
    }
}
