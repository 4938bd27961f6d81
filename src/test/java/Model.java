import java.util.ArrayList;
import java.util.HashSet;
import java.util.IdentityHashMap;
import java.util.List;
import java.util.Map;
import java.util.Set;

/**
 * The document word by word, without regard to cost: real blocks with parts, blocks that an edit
 * really changes in place, and states that are recorded as deep copies. It shares no idea with the
 * program (which derives the tree's shape from the length), so that both can be compared.
 */
final class Model {
    static final int UNKNOWN = -1;
    static final int BAD_VALUE = -2;
    static final int FULL = -3;
    static final int NOT_POSSIBLE = -4;
    static final int NONE = -5;

    private static final class Block {
        int number;
        int level;
        List<Block> parts = new ArrayList<>();
        List<Integer> values = new ArrayList<>();
    }

    private static final class Row {
        Block root;
        List<Integer> tail = new ArrayList<>();
    }

    private static final class Vec {
        Row row;
        boolean window;
        int first;
        int many;
    }

    private static final class State {
        List<Vec> vectors = new ArrayList<>();
        int made = 0;
        Row edit = null;
        Set<Block> own = new HashSet<>();
    }

    private State now = new State();
    private State snapshot = null;
    private final List<State> history = new ArrayList<>();
    private String text = "";
    /** The blocks that the running change may change in place; null without an edit. */
    private Set<Block> own = null;

    Model() {
        now.vectors.add(vec(new Row(), false, 0, 0));
    }

    // ---- copies

    private static State copy(State state) {
        Map<Block, Block> blocks = new IdentityHashMap<>();
        State copy = new State();
        for (Vec v : state.vectors) {
            copy.vectors.add(v == null ? null : vec(copy(v.row, blocks), v.window, v.first, v.many));
        }
        copy.made = state.made;
        copy.edit = state.edit == null ? null : copy(state.edit, blocks);
        for (Block b : state.own) {
            copy.own.add(copy(b, blocks));
        }
        return copy;
    }

    private static Row copy(Row row, Map<Block, Block> blocks) {
        Row copy = new Row();
        copy.root = row.root == null ? null : copy(row.root, blocks);
        copy.tail.addAll(row.tail);
        return copy;
    }

    private static Block copy(Block block, Map<Block, Block> blocks) {
        Block copy = blocks.get(block);
        if (copy == null) {
            copy = new Block();
            blocks.put(block, copy);
            copy.number = block.number;
            copy.level = block.level;
            copy.values.addAll(block.values);
            for (Block part : block.parts) {
                copy.parts.add(copy(part, blocks));
            }
        }
        return copy;
    }

    private static Vec vec(Row row, boolean window, int first, int many) {
        Vec v = new Vec();
        v.row = row;
        v.window = window;
        v.first = first;
        v.many = many;
        return v;
    }

    // ---- what a row holds

    private static void collect(Block block, int level, List<Block> into) {
        if (block == null) {
            return;
        }
        if (level < 0 || block.level == level) {
            into.add(block);
        }
        for (Block part : block.parts) {
            collect(part, level, into);
        }
    }

    private static List<Block> blocks(Row row, int level) {
        List<Block> all = new ArrayList<>();
        collect(row.root, level, all);
        return all;
    }

    private static List<Block> allBlocks(Row row) {
        return blocks(row, -1);
    }

    private static List<Integer> values(Row row) {
        List<Integer> all = new ArrayList<>();
        for (Block leaf : blocks(row, 0)) {
            all.addAll(leaf.values);
        }
        all.addAll(row.tail);
        return all;
    }

    private static int length(Row row) {
        return values(row).size();
    }

    private static List<Integer> shown(Vec v) {
        return values(v.row).subList(v.first, v.first + v.many);
    }

    private static int leavesBelow(Block block) {
        List<Block> leaves = new ArrayList<>();
        collect(block, 0, leaves);
        return leaves.size();
    }

    private static int fourTo(int power) {
        int result = 1;
        for (int i = 0; i < power; i++) {
            result *= 4;
        }
        return result;
    }

    // ---- making blocks

    private Block make(int level, List<Block> parts, List<Integer> values) {
        Block b = new Block();
        b.number = now.made++;
        b.level = level;
        b.parts = new ArrayList<>(parts);
        b.values = new ArrayList<>(values);
        if (own != null) {
            own.add(b);
        }
        return b;
    }

    private Block anew(Block block, List<Block> parts, List<Integer> values) {
        if (own != null && own.contains(block)) {
            block.parts = new ArrayList<>(parts);
            block.values = new ArrayList<>(values);
            return block;
        }
        return make(block.level, parts, values);
    }

    private Block chain(Block leaf, int upTo) {
        Block top = leaf;
        for (int level = 1; level <= upTo; level++) {
            top = make(level, List.of(top), List.of());
        }
        return top;
    }

    private Row pushed(Row row, int value) {
        Row result = new Row();
        if (row.tail.size() < 4) {
            result.root = row.root;
            result.tail.addAll(row.tail);
            result.tail.add(value);
            return result;
        }
        Block leaf = make(0, List.of(), row.tail);
        result.tail.add(value);
        if (row.root == null) {
            result.root = make(1, List.of(leaf), List.of());
        } else if (leavesBelow(row.root) == fourTo(row.root.level)) {
            Block right = chain(leaf, row.root.level);
            result.root = make(row.root.level + 1, List.of(row.root, right), List.of());
        } else {
            result.root = withLeaf(row.root, leaf);
        }
        return result;
    }

    private Block withLeaf(Block block, Block leaf) {
        List<Block> parts = new ArrayList<>(block.parts);
        if (block.level == 1) {
            parts.add(leaf);
            return anew(block, parts, List.of());
        }
        Block last = parts.get(parts.size() - 1);
        if (leavesBelow(last) == fourTo(last.level)) {
            parts.add(chain(leaf, last.level));
        } else {
            parts.set(parts.size() - 1, withLeaf(last, leaf));
        }
        return anew(block, parts, List.of());
    }

    private Row setted(Row row, int place, int value) {
        Row result = new Row();
        result.root = row.root;
        result.tail.addAll(row.tail);
        int inTree = length(row) - row.tail.size();
        if (place >= inTree) {
            result.tail.set(place - inTree, value);
        } else {
            result.root = withValue(row.root, place, value);
        }
        return result;
    }

    private Block withValue(Block block, int place, int value) {
        if (block.level == 0) {
            List<Integer> values = new ArrayList<>(block.values);
            values.set(place, value);
            return anew(block, List.of(), values);
        }
        int below = fourTo(block.level);
        List<Block> parts = new ArrayList<>(block.parts);
        int part = place / below;
        parts.set(part, withValue(parts.get(part), place % below, value));
        return anew(block, parts, List.of());
    }

    private Row popped(Row row) {
        Row result = new Row();
        result.root = row.root;
        if (row.tail.size() > 1 || row.root == null) {
            result.tail.addAll(row.tail.subList(0, row.tail.size() - 1));
            return result;
        }
        List<Block> leaves = blocks(row, 0);
        result.tail.addAll(leaves.get(leaves.size() - 1).values);
        result.root = withoutLastLeaf(row.root, true);
        while (result.root != null && result.root.level > 1 && result.root.parts.size() == 1) {
            result.root = result.root.parts.get(0);
        }
        return result;
    }

    private Block withoutLastLeaf(Block block, boolean isRoot) {
        List<Block> parts = new ArrayList<>(block.parts);
        Block last = parts.remove(parts.size() - 1);
        if (block.level > 1) {
            Block left = withoutLastLeaf(last, false);
            if (left != null) {
                parts.add(left);
            }
        }
        if (parts.isEmpty()) {
            return null;
        }
        if (isRoot && block.level > 1 && parts.size() == 1) {
            return parts.get(0);
        }
        return anew(block, parts, List.of());
    }

    // ---- acts

    private Vec at(int vector) {
        return vector < 0 || vector >= now.vectors.size() ? null : now.vectors.get(vector);
    }

    private boolean full() {
        return now.vectors.size() == 24;
    }

    private static boolean bad(int value) {
        return value < 0 || value > 999;
    }

    private void record() {
        history.add(copy(now));
        if (history.size() > 4) {
            history.remove(0);
        }
    }

    private int added(Vec v) {
        now.vectors.add(v);
        return now.vectors.size() - 1;
    }

    int push(int vector, int value) {
        Vec v = at(vector);
        if (v == null) {
            return UNKNOWN;
        }
        if (bad(value)) {
            return BAD_VALUE;
        }
        boolean behind = v.first + v.many < length(v.row);
        if (full() || (!behind && length(v.row) == 300)) {
            return FULL;
        }
        record();
        if (!v.window) {
            return added(vec(pushed(v.row, value), false, 0, v.many + 1));
        }
        Row row = behind ? setted(v.row, v.first + v.many, value) : pushed(v.row, value);
        return added(vec(row, true, v.first, v.many + 1));
    }

    int set(int vector, int place, int value) {
        Vec v = at(vector);
        if (v == null || place < 0 || place >= v.many) {
            return UNKNOWN;
        }
        if (bad(value)) {
            return BAD_VALUE;
        }
        if (full()) {
            return FULL;
        }
        record();
        return added(vec(setted(v.row, v.first + place, value), v.window, v.first, v.many));
    }

    int pop(int vector) {
        Vec v = at(vector);
        if (v == null) {
            return UNKNOWN;
        }
        if (v.many == 0) {
            return NOT_POSSIBLE;
        }
        if (full()) {
            return FULL;
        }
        record();
        if (v.window) {
            return added(vec(v.row, true, v.first, v.many - 1));
        }
        return added(vec(popped(v.row), false, 0, v.many - 1));
    }

    int window(int vector, int first, int many) {
        Vec v = at(vector);
        if (v == null) {
            return UNKNOWN;
        }
        if (first < 0 || first > v.many) {
            return BAD_VALUE;
        }
        if (many < 0 || many > v.many - first) {
            return BAD_VALUE;
        }
        if (full()) {
            return FULL;
        }
        record();
        return added(vec(v.row, true, v.first + first, many));
    }

    int drop(int vector) {
        if (at(vector) == null) {
            return UNKNOWN;
        }
        record();
        now.vectors.set(vector, null);
        return count(1);
    }

    int begin(int vector) {
        Vec v = at(vector);
        if (v == null) {
            return UNKNOWN;
        }
        if (now.edit != null || v.window) {
            return NOT_POSSIBLE;
        }
        record();
        now.edit = v.row;
        now.own = new HashSet<>();
        return length(v.row);
    }

    private int edited(Row row, int before) {
        own = null;
        now.edit = row;
        return now.made - before;
    }

    int editPush(int value) {
        if (now.edit == null) {
            return NOT_POSSIBLE;
        }
        if (bad(value)) {
            return BAD_VALUE;
        }
        if (length(now.edit) == 300) {
            return FULL;
        }
        record();
        own = now.own;
        int before = now.made;
        return edited(pushed(now.edit, value), before);
    }

    int editSet(int place, int value) {
        if (now.edit == null) {
            return NOT_POSSIBLE;
        }
        if (place < 0 || place >= length(now.edit)) {
            return UNKNOWN;
        }
        if (bad(value)) {
            return BAD_VALUE;
        }
        record();
        own = now.own;
        int before = now.made;
        return edited(setted(now.edit, place, value), before);
    }

    int editPop() {
        if (now.edit == null || length(now.edit) == 0) {
            return NOT_POSSIBLE;
        }
        record();
        own = now.own;
        int before = now.made;
        return edited(popped(now.edit), before);
    }

    private int fault() {
        String value = "(0|[1-9][0-9]{0,2})";
        for (int i = 0; i < text.length(); i++) {
            if (!text.substring(0, i + 1).matches("(" + value + ",)*" + value + "?")) {
                return i;
            }
        }
        return text.matches("(" + value + ",)*" + value) ? -1 : text.length();
    }

    int editRead() {
        if (now.edit == null) {
            return NOT_POSSIBLE;
        }
        int fault = fault();
        if (fault >= 0) {
            return -100 - fault;
        }
        String[] values = text.split(",");
        if (length(now.edit) + values.length > 300) {
            return FULL;
        }
        record();
        own = now.own;
        int before = now.made;
        Row row = now.edit;
        for (String value : values) {
            row = pushed(row, Integer.parseInt(value));
        }
        return edited(row, before);
    }

    int finish() {
        if (now.edit == null) {
            return NOT_POSSIBLE;
        }
        if (full()) {
            return FULL;
        }
        record();
        Row row = now.edit;
        now.edit = null;
        now.own = new HashSet<>();
        return added(vec(row, false, 0, length(row)));
    }

    int abandon() {
        if (now.edit == null) {
            return NOT_POSSIBLE;
        }
        record();
        int length = length(now.edit);
        now.edit = null;
        now.own = new HashSet<>();
        return length;
    }

    int type(char character) {
        if (text.length() == 60) {
            return FULL;
        }
        text = text + character;
        return text.length();
    }

    int clearText() {
        int length = text.length();
        text = "";
        return length;
    }

    int undo() {
        if (history.isEmpty()) {
            return NONE;
        }
        now = history.remove(history.size() - 1);
        return history.size();
    }

    int keep() {
        snapshot = copy(now);
        return now.made;
    }

    int restore() {
        if (snapshot == null) {
            return NONE;
        }
        record();
        now = copy(snapshot);
        return now.made;
    }

    // ---- what is told

    int get(int vector, int place) {
        Vec v = at(vector);
        return v == null || place < 0 || place >= v.many ? UNKNOWN : shown(v).get(place);
    }

    int vector(int vector, int what) {
        Vec v = at(vector);
        if (v == null) {
            return UNKNOWN;
        }
        int sum = 0;
        int greatest = NONE;
        for (int value : shown(v)) {
            sum += value;
            greatest = value > greatest ? value : greatest;
        }
        int rootLevel = v.row.root == null ? NONE : v.row.root.level;
        int[] answers = {v.many, v.window ? 1 : 0, v.first, length(v.row), blocks(v.row, 0).size(),
            allBlocks(v.row).size(), rootLevel, v.row.tail.size(), sum, greatest};
        return what < 0 || what >= answers.length ? BAD_VALUE : answers[what];
    }

    int block(int vector, int level, int place) {
        Vec v = at(vector);
        if (v == null) {
            return UNKNOWN;
        }
        if (level < 0 || place < 0) {
            return BAD_VALUE;
        }
        List<Block> blocks = blocks(v.row, level);
        return place < blocks.size() ? blocks.get(place).number : NONE;
    }

    int shared(int vector, int other) {
        Vec v = at(vector);
        Vec o = at(other);
        if (v == null || o == null) {
            return UNKNOWN;
        }
        Set<Block> both = new HashSet<>(allBlocks(v.row));
        both.retainAll(new HashSet<>(allBlocks(o.row)));
        return both.size();
    }

    int differ(int vector, int other) {
        Vec v = at(vector);
        Vec o = at(other);
        if (v == null || o == null) {
            return UNKNOWN;
        }
        List<Integer> a = shown(v);
        List<Integer> b = shown(o);
        for (int i = 0; i < 301; i++) {
            Integer x = i < a.size() ? a.get(i) : null;
            Integer y = i < b.size() ? b.get(i) : null;
            if (x == null && y == null) {
                return NONE;
            }
            if (x == null || !x.equals(y)) {
                return i;
            }
        }
        return NONE;
    }

    int find(int vector, int value, int from) {
        Vec v = at(vector);
        if (v == null) {
            return UNKNOWN;
        }
        if (from < 0) {
            return BAD_VALUE;
        }
        List<Integer> values = shown(v);
        for (int i = 0; i < values.size(); i++) {
            if (i >= from && values.get(i) == value) {
                return i;
            }
        }
        return NONE;
    }

    int wouldMake(int vector, int what) {
        Vec v = at(vector);
        if (v == null) {
            return UNKNOWN;
        }
        if (what < 0 || what > 2) {
            return BAD_VALUE;
        }
        if (v.window || (what > 0 && v.many == 0) || (what == 0 && v.many == 300)) {
            return NOT_POSSIBLE;
        }
        int before = now.made;
        if (what == 0) {
            pushed(v.row, 0);
        } else if (what == 1) {
            popped(v.row);
        } else {
            setted(v.row, 0, 0);
        }
        int made = now.made - before;
        now.made = before;
        return made;
    }

    private Set<Block> blocksOfVectors() {
        Set<Block> all = new HashSet<>();
        for (Vec v : now.vectors) {
            if (v != null) {
                all.addAll(allBlocks(v.row));
            }
        }
        return all;
    }

    int edit(int what) {
        if (what < 0 || what > 4) {
            return BAD_VALUE;
        }
        if (now.edit == null) {
            return NOT_POSSIBLE;
        }
        Set<Block> blocks = new HashSet<>(allBlocks(now.edit));
        Set<Block> mine = new HashSet<>(blocks);
        mine.retainAll(now.own);
        Set<Block> common = blocksOfVectors();
        common.retainAll(blocks);
        int root = now.edit.root == null ? NONE : now.edit.root.number;
        int[] answers = {length(now.edit), mine.size(), blocks.size(), common.size(), root};
        return answers[what];
    }

    int count(int what) {
        int there = 0;
        int sum = 0;
        for (Vec v : now.vectors) {
            there += v == null ? 0 : 1;
            sum += v == null ? 0 : v.many;
        }
        Set<Block> used = blocksOfVectors();
        if (now.edit != null) {
            used.addAll(allBlocks(now.edit));
        }
        int[] answers = {now.vectors.size(), there, now.made, used.size(), now.made - used.size(),
            now.edit == null ? 0 : 1, sum, history.size(), text.length()};
        return what < 0 || what >= answers.length ? BAD_VALUE : answers[what];
    }
}
