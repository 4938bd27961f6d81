/** Each promise of the document by hand: ordinary inputs, edges, wrong inputs. */
public final class PromisesTest {
    private static final int UNKNOWN = -1;
    private static final int BAD_VALUE = -2;
    private static final int FULL = -3;
    private static final int NOT_POSSIBLE = -4;
    private static final int NONE = -5;
    private static final int[] WILD = {Integer.MIN_VALUE, -1000, -1, 0, 1, 4, 23, 24, 25, 60, 299,
        300, 301, 999, 1000, Integer.MAX_VALUE - 1, Integer.MAX_VALUE};

    private final Check check = new Check();

    public static void main(String[] args) {
        PromisesTest test = new PromisesTest();
        test.newObject();
        test.push();
        test.pushMakesBlocks();
        test.pushOnWindows();
        test.set();
        test.pop();
        test.popMakesBlocks();
        test.window();
        test.drop();
        test.begin();
        test.editPush();
        test.editSet();
        test.editPop();
        test.editRead();
        test.editReadFaults();
        test.finish();
        test.abandon();
        test.type();
        test.clearText();
        test.undo();
        test.undoOfTheEdit();
        test.whatIsRecorded();
        test.keep();
        test.restore();
        test.get();
        test.vector();
        test.block();
        test.shared();
        test.differ();
        test.find();
        test.wouldMake();
        test.edit();
        test.count();
        test.wildArguments();
        test.check.end();
    }

    /** An object whose vector 1 has the values 0, 1, 2 .. made by one edit. */
    private static TailVectors filled(int many) {
        TailVectors x = new TailVectors();
        x.begin(0);
        for (int i = 0; i < many; i++) {
            x.editPush(i);
        }
        x.finish();
        return x;
    }

    private static void typeAll(TailVectors x, String text) {
        x.clearText();
        for (int i = 0; i < text.length(); i++) {
            x.type(text.charAt(i));
        }
    }

    /** Makes vectors until there have been 24. */
    private static void useUpVectors(TailVectors x) {
        while (x.count(0) < 24) {
            x.window(0, 0, 0);
        }
    }

    private void due(String call, long got, long want) {
        check.due(call, got, want);
    }

    private void newObject() {
        check.topic("promise 1");
        TailVectors x = new TailVectors();
        due("vectors ever", x.count(0), 1);
        due("vectors", x.count(1), 1);
        for (int what = 2; what <= 8; what++) {
            due("count(" + what + ")", x.count(what), 0);
        }
        due("length", x.vector(0, 0), 0);
        due("is a window", x.vector(0, 1), 0);
        due("root", x.vector(0, 6), NONE);
        due("vector 1", x.vector(1, 0), UNKNOWN);
        due("no edit", x.edit(0), NOT_POSSIBLE);
        due("no history", x.undo(), NONE);
        due("no snapshot", x.restore(), NONE);
        due("no text", x.clearText(), 0);
    }

    private void push() {
        check.topic("promise 2");
        TailVectors x = new TailVectors();
        due("push(0, 0)", x.push(0, 0), 1);
        due("push(0, 999)", x.push(0, 999), 2);
        due("push(1, 8)", x.push(1, 8), 3);
        due("the old one stays", x.vector(1, 0), 1);
        due("its value", x.get(3, 1), 8);
        due("its first value", x.get(3, 0), 0);
        due("unknown", x.push(4, 0), UNKNOWN);
        due("unknown below", x.push(-1, 0), UNKNOWN);
        due("unknown before bad", x.push(4, 1000), UNKNOWN);
        due("bad below", x.push(1, -1), BAD_VALUE);
        due("bad above", x.push(1, 1000), BAD_VALUE);
        x.drop(2);
        due("dropped", x.push(2, 0), UNKNOWN);
        useUpVectors(x);
        due("full", x.push(1, 0), FULL);
        due("bad before full", x.push(1, 1000), BAD_VALUE);
        due("unknown before full", x.push(24, 0), UNKNOWN);
        TailVectors y = filled(299);
        due("the 300th value", y.push(1, 7), 2);
        due("the 301st value", y.push(2, 7), FULL);
        due("bad before a full row", y.push(2, -1), BAD_VALUE);
        due("length", y.vector(2, 0), 300);
        due("the last value", y.get(2, 299), 7);
        due("leaves", y.vector(2, 4), 74);
        due("blocks", y.vector(2, 5), 101);
    }

    private void pushMakesBlocks() {
        check.topic("promise 2, blocks");
        TailVectors x = new TailVectors();
        for (int i = 0; i < 23; i++) {
            due("push", x.push(i, i), i + 1);
        }
        due("made", x.count(2), 11);
        due("a first leaf", x.block(5, 0, 0), 0);
        due("a first root", x.block(5, 1, 0), 1);
        due("a second leaf", x.block(9, 0, 1), 2);
        due("a root anew", x.block(9, 1, 0), 3);
        due("a fifth leaf", x.block(21, 0, 4), 8);
        due("the old root stays", x.block(21, 1, 0), 7);
        due("the block of the leaf", x.block(21, 1, 1), 9);
        due("the new root", x.block(21, 2, 0), 10);
        due("no other block", x.block(21, 1, 2), NONE);
        pushBeside(68, 21, 4);
        pushBeside(260, 85, 5);
        TailVectors y = filled(72);
        int made = y.count(2);
        due("leaf and three anew", y.push(1, 5), 2);
        due("leaf", y.block(2, 0, 17), made);
        due("level 1", y.block(2, 1, 4), made + 1);
        due("level 2", y.block(2, 2, 1), made + 2);
        due("level 3", y.block(2, 3, 0), made + 3);
        due("made", y.count(2), made + 4);
        TailVectors z = filled(84);
        made = z.count(2);
        due("a block beside another", z.push(1, 5), 2);
        due("leaf", z.block(2, 0, 20), made);
        due("level 1 is new", z.block(2, 1, 5), made + 1);
        due("level 2 anew", z.block(2, 2, 1), made + 2);
        due("level 1 before it", z.block(2, 1, 4), z.block(1, 1, 4));
    }

    /** Pushes a leaf to a tree that is full up to its root, so that a root comes above. */
    private void pushBeside(int length, int blocks, int levels) {
        TailVectors x = filled(length);
        due("blocks of " + length, x.count(2), blocks);
        due("push", x.push(1, 5), 2);
        int leaves = length / 4 - 1;
        int place = leaves;
        for (int level = 0; level < levels; level++) {
            due("level " + level, x.block(2, level, place), blocks + level);
            place /= 4;
        }
        due("root", x.vector(2, 6), levels - 1);
        due("made", x.count(2), blocks + levels);
        due("all old ones are shared", x.shared(1, 2), blocks);
    }

    private void pushOnWindows() {
        check.topic("promise 2, windows");
        TailVectors x = filled(10);
        due("window(1, 2, 3)", x.window(1, 2, 3), 2);
        int made = x.count(2);
        due("push sets the place behind", x.push(2, 500), 3);
        due("a window", x.vector(3, 1), 1);
        due("shows one more", x.vector(3, 0), 4);
        due("from the same place", x.vector(3, 2), 2);
        due("row as long", x.vector(3, 3), 10);
        due("value", x.get(3, 3), 500);
        due("leaf and root", x.count(2), made + 2);
        due("old value", x.get(1, 5), 5);
        due("window at the end", x.window(1, 10, 0), 4);
        due("push behind the row", x.push(4, 600), 5);
        due("row longer", x.vector(5, 3), 11);
        due("shows one", x.vector(5, 0), 1);
        due("value", x.get(5, 0), 600);
        due("still a window", x.vector(5, 1), 1);
        TailVectors y = filled(300);
        due("window", y.window(1, 0, 299), 2);
        due("a full row can be set", y.push(2, 1), 3);
        due("its value", y.get(3, 299), 1);
        due("but not pushed", y.push(3, 1), FULL);
        due("window at the end", y.window(1, 300, 0), 4);
        due("full", y.push(4, 1), FULL);
    }

    private void set() {
        check.topic("promise 3");
        TailVectors x = filled(21);
        due("in the tail", x.set(1, 20, 9), 2);
        due("makes nothing", x.count(2), 8);
        due("value", x.get(2, 20), 9);
        due("old value", x.get(1, 20), 20);
        due("the same value", x.set(1, 6, 6), 3);
        due("leaf", x.block(3, 0, 1), 8);
        due("level 1", x.block(3, 1, 0), 9);
        due("level 2", x.block(3, 2, 0), 10);
        due("the rest is shared", x.shared(1, 3), 5);
        due("the last leaf", x.set(1, 16, 999), 4);
        due("leaf", x.block(4, 0, 4), 11);
        due("level 1", x.block(4, 1, 1), 12);
        due("value", x.get(4, 16), 999);
        due("neighbour", x.get(4, 15), 15);
        due("unknown vector", x.set(5, 0, 0), UNKNOWN);
        due("unknown place", x.set(1, 21, 0), UNKNOWN);
        due("place below", x.set(1, -1, 0), UNKNOWN);
        due("unknown before bad", x.set(1, 21, 1000), UNKNOWN);
        due("bad below", x.set(1, 0, -1), BAD_VALUE);
        due("bad above", x.set(1, 0, 1000), BAD_VALUE);
        due("window", x.window(1, 4, 3), 5);
        due("set in a window", x.set(5, 2, 77), 6);
        due("a window", x.vector(6, 1), 1);
        due("first", x.vector(6, 2), 4);
        due("length", x.vector(6, 0), 3);
        due("value", x.get(6, 2), 77);
        due("place outside the window", x.set(5, 3, 0), UNKNOWN);
        useUpVectors(x);
        due("full", x.set(1, 0, 0), FULL);
        due("bad before full", x.set(1, 0, 1000), BAD_VALUE);
        due("unknown before full", x.set(1, 21, 0), UNKNOWN);
    }

    private void pop() {
        check.topic("promise 4");
        TailVectors x = filled(2);
        due("pop(1)", x.pop(1), 2);
        due("length", x.vector(2, 0), 1);
        due("old length", x.vector(1, 0), 2);
        due("pop(2)", x.pop(2), 3);
        due("empty", x.pop(3), NOT_POSSIBLE);
        due("unknown", x.pop(4), UNKNOWN);
        due("window", x.window(1, 1, 1), 4);
        due("pop of a window", x.pop(4), 5);
        due("a window", x.vector(5, 1), 1);
        due("shows none", x.vector(5, 0), 0);
        due("row", x.vector(5, 3), 2);
        due("first", x.vector(5, 2), 1);
        due("an empty window", x.pop(5), NOT_POSSIBLE);
        useUpVectors(x);
        due("full", x.pop(1), FULL);
        due("empty before full", x.pop(0), NOT_POSSIBLE);
        due("unknown before full", x.pop(24), UNKNOWN);
        TailVectors y = filled(9);
        due("window of all", y.window(1, 0, 9), 2);
        due("pop", y.pop(2), 3);
        due("of the same row", y.shared(1, 3), y.vector(1, 5));
        due("nothing made", y.count(2), 3);
    }

    private void popMakesBlocks() {
        check.topic("promise 4, blocks");
        TailVectors x = filled(21);
        due("the root is the part", x.pop(1), 2);
        due("nothing made", x.count(2), 8);
        due("root", x.vector(2, 6), 1);
        due("its number", x.block(2, 1, 0), x.block(1, 1, 0));
        due("no level 2", x.block(2, 2, 0), NONE);
        due("the leaf is the tail", x.vector(2, 7), 4);
        due("its values", x.get(2, 19), 19);
        due("pop in the tail", x.pop(2), 3);
        due("pop in the tail", x.pop(3), 4);
        due("pop in the tail", x.pop(4), 5);
        due("nothing made", x.count(2), 8);
        due("pop of a leaf", x.pop(5), 6);
        due("the root anew", x.block(6, 1, 0), 8);
        due("leaves", x.vector(6, 4), 3);
        due("no fourth leaf", x.block(6, 0, 3), NONE);
        due("a leaf is made again", x.push(6, 1), 7);
        due("its number", x.block(7, 0, 3), 9);
        TailVectors y = filled(5);
        due("pop of the only leaf", y.pop(1), 2);
        due("no leaf", y.block(2, 0, 0), NONE);
        due("no block", y.vector(2, 5), 0);
        popMakes(5, 0, NONE);
        popMakes(9, 1, 1);
        popMakes(69, 0, 2);
        popMakes(73, 3, 3);
        popMakes(85, 2, 3);
        popMakes(37, 1, 2);
        popMakes(41, 2, 2);
        popMakes(261, 0, 3);
        popMakes(265, 4, 4);
    }

    private void popMakes(int length, int blocks, int root) {
        TailVectors x = filled(length);
        int made = x.count(2);
        due("pop of " + length, x.pop(1), 2);
        due("made by pop of " + length, x.count(2) - made, blocks);
        due("root of " + (length - 1), x.vector(2, 6), root);
        due("values differ at the end", x.differ(1, 2), length - 1);
        if (blocks == root) {
            numbersOnLastPath(x, root, made);
        }
    }

    /** Where no block of the path went, the levels from 1 up have the numbers in their order. */
    private void numbersOnLastPath(TailVectors x, int root, int made) {
        int place = x.vector(2, 4);
        for (int level = 1; level <= root; level++) {
            place /= 4;
            due("number at level " + level, x.block(2, level, place), made + level - 1);
        }
    }

    private void window() {
        check.topic("promise 5");
        TailVectors x = filled(10);
        due("window(1, 3, 4)", x.window(1, 3, 4), 2);
        due("value", x.get(2, 0), 3);
        due("length", x.vector(2, 0), 4);
        due("window of a window", x.window(2, 1, 2), 3);
        due("first of the row", x.vector(3, 2), 4);
        due("value", x.get(3, 1), 5);
        due("row", x.vector(3, 3), 10);
        due("nothing made", x.count(2), 3);
        due("all is a window, too", x.window(1, 0, 10), 4);
        due("is a window", x.vector(4, 1), 1);
        due("none at the end", x.window(1, 10, 0), 5);
        due("unknown", x.window(6, 0, 0), UNKNOWN);
        due("first below", x.window(1, -1, 1), BAD_VALUE);
        due("first above", x.window(1, 11, 0), BAD_VALUE);
        due("many below", x.window(1, 0, -1), BAD_VALUE);
        due("many above", x.window(1, 3, 8), BAD_VALUE);
        due("many wild", x.window(1, 3, Integer.MAX_VALUE), BAD_VALUE);
        due("outside of the window", x.window(2, 0, 5), BAD_VALUE);
        due("of an empty vector", x.window(0, 0, 0), 6);
        useUpVectors(x);
        due("full", x.window(1, 0, 0), FULL);
        due("bad before full", x.window(1, 11, 0), BAD_VALUE);
        due("unknown before full", x.window(24, 0, 0), UNKNOWN);
    }

    private void drop() {
        check.topic("promise 6");
        TailVectors x = filled(6);
        due("drop(0)", x.drop(0), 1);
        due("again", x.drop(0), UNKNOWN);
        due("never was", x.drop(2), UNKNOWN);
        due("below", x.drop(-1), UNKNOWN);
        due("vectors ever", x.count(0), 2);
        due("vectors", x.count(1), 1);
        due("drop(1)", x.drop(1), 0);
        due("blocks that nobody has", x.count(4), 2);
        due("no length any more", x.vector(1, 0), UNKNOWN);
        due("undo", x.undo(), 3);
        due("it is back", x.vector(1, 0), 6);
        due("a new number", x.push(1, 1), 2);
    }

    private void begin() {
        check.topic("promise 7");
        TailVectors x = filled(5);
        due("begin(1)", x.begin(1), 5);
        due("an edit", x.count(5), 1);
        due("a second edit", x.begin(1), NOT_POSSIBLE);
        due("unknown first", x.begin(2), UNKNOWN);
        due("its own blocks", x.edit(1), 0);
        due("drop(1)", x.drop(1), 1);
        due("blocks of the edit", x.edit(2), 2);
        due("that a vector has", x.edit(3), 0);
        due("finish", x.finish(), 2);
        due("values", x.get(2, 4), 4);
        due("window", x.window(2, 0, 5), 3);
        due("a window", x.begin(3), NOT_POSSIBLE);
        due("an empty one", x.begin(0), 0);
    }

    private void editPush() {
        check.topic("promise 8");
        TailVectors x = filled(5);
        due("no edit", x.editPush(1), NOT_POSSIBLE);
        due("no edit first", x.editPush(1000), NOT_POSSIBLE);
        x.begin(1);
        int[] made = {0, 0, 0, 2, 0, 0, 0, 1, 0, 0, 0, 1, 0, 0, 0, 3, 0, 0, 0, 1};
        for (int i = 0; i < made.length; i++) {
            due("push of value " + (6 + i), x.editPush(i), made[i]);
        }
        due("bad above", x.editPush(1000), BAD_VALUE);
        due("bad below", x.editPush(-1), BAD_VALUE);
        due("length", x.edit(0), 25);
        due("blocks", x.edit(2), 9);
        due("own blocks", x.edit(1), 8);
        due("shared blocks", x.edit(3), 1);
        due("root", x.edit(4), 8);
        due("finish", x.finish(), 2);
        due("root of level 1 changed in place", x.block(2, 1, 0), 3);
        due("old root", x.block(1, 1, 0), 1);
        due("value", x.get(2, 24), 19);
        TailVectors y = filled(300);
        y.begin(1);
        due("a full row", y.editPush(1), FULL);
        due("bad before full", y.editPush(1000), BAD_VALUE);
        due("pop", y.editPop(), 0);
        due("room again", y.editPush(1), 0);
    }

    private void editSet() {
        check.topic("promise 9");
        TailVectors x = filled(21);
        due("no edit", x.editSet(0, 0), NOT_POSSIBLE);
        due("no edit first", x.editSet(21, 1000), NOT_POSSIBLE);
        x.begin(1);
        due("a path anew", x.editSet(0, 900), 3);
        due("in place", x.editSet(1, 901), 0);
        due("a leaf alone", x.editSet(4, 902), 1);
        due("leaf and level 1", x.editSet(16, 903), 2);
        due("in the tail", x.editSet(20, 904), 0);
        due("unknown", x.editSet(21, 0), UNKNOWN);
        due("unknown below", x.editSet(-1, 0), UNKNOWN);
        due("unknown before bad", x.editSet(21, 1000), UNKNOWN);
        due("bad above", x.editSet(0, 1000), BAD_VALUE);
        due("bad below", x.editSet(0, -1), BAD_VALUE);
        due("a push on the side", x.set(1, 0, 5), 2);
        due("own are still its own", x.editSet(0, 905), 0);
        due("finish", x.finish(), 3);
        due("value", x.get(3, 0), 905);
        due("value", x.get(3, 1), 901);
        due("old value", x.get(1, 0), 0);
        due("leaf", x.block(3, 0, 0), 8);
        due("level 1", x.block(3, 1, 0), 9);
        due("root", x.block(3, 2, 0), 10);
        due("next leaf", x.block(3, 0, 1), 11);
        due("begin again", x.begin(3), 21);
        due("nothing is its own any more", x.editSet(0, 1), 3);
    }

    private void editPop() {
        check.topic("promise 10");
        TailVectors x = filled(73);
        due("no edit", x.editPop(), NOT_POSSIBLE);
        x.begin(1);
        due("a leaf goes", x.editPop(), 3);
        due("own", x.edit(1), 3);
        for (int i = 0; i < 3; i++) {
            due("in the tail", x.editPop(), 0);
        }
        due("a level goes", x.editPop(), 0);
        due("own ones are gone", x.edit(1), 0);
        due("root", x.edit(4), x.block(1, 2, 0));
        due("length", x.edit(0), 68);
        TailVectors y = filled(77);
        y.begin(1);
        due("a leaf goes", y.editPop(), 3);
        y.editPop();
        y.editPop();
        y.editPop();
        due("in place", y.editPop(), 0);
        due("own", y.edit(1), 3);
        due("old leaves", y.vector(1, 4), 19);
        TailVectors z = filled(5);
        z.begin(1);
        for (int i = 0; i < 5; i++) {
            due("pop", z.editPop(), 0);
        }
        due("empty", z.editPop(), NOT_POSSIBLE);
        due("no root", z.edit(4), NONE);
        due("finish", z.finish(), 2);
        due("old values", z.get(1, 4), 4);
    }

    private void editRead() {
        check.topic("promise 11");
        TailVectors x = new TailVectors();
        typeAll(x, "1,22,333,0,999");
        due("no edit", x.editRead(), NOT_POSSIBLE);
        x.begin(0);
        due("leaf and root", x.editRead(), 2);
        due("the text stays", x.count(8), 14);
        due("one act", x.count(7), 2);
        due("again, in place", x.editRead(), 1);
        due("undo takes all", x.undo(), 2);
        due("length", x.edit(0), 5);
        due("finish", x.finish(), 1);
        int[] values = {1, 22, 333, 0, 999};
        for (int i = 0; i < values.length; i++) {
            due("value " + i, x.get(1, i), values[i]);
        }
        TailVectors y = filled(298);
        y.begin(1);
        typeAll(y, "1,2,3");
        due("too many", y.editRead(), FULL);
        due("nothing changed", y.edit(0), 298);
        typeAll(y, "1,2,3,");
        due("fault before full", y.editRead(), -106);
        typeAll(y, "1,2");
        due("just enough", y.editRead(), 0);
        due("length", y.edit(0), 300);
        due("full", y.editRead(), FULL);
        TailVectors z = new TailVectors();
        z.begin(0);
        typeAll(z, "1,2,3,4,5,6,7,8,9,0,1,2,3,4,5,6,7,8,9,0,1,2,3,4,5,6,7,8,9,0");
        due("thirty values", z.editRead(), 10);
        due("their number", z.edit(0), 30);
    }

    private void editReadFaults() {
        check.topic("promise 11, faults");
        fault("", 0);
        fault(",", 0);
        fault("1,", 2);
        fault("1,,2", 2);
        fault("01", 1);
        fault("00", 1);
        fault("0,01", 3);
        fault("1000", 3);
        fault("100,0000", 5);
        fault("999,1000", 7);
        fault("-1", 0);
        fault("1 ", 1);
        fault(" 1", 0);
        fault("1, 2", 2);
        fault("1;2", 1);
        fault("a", 0);
        fault("1,2,x", 4);
        fault("/", 0);
        fault(":", 0);
        fault("" + (char) 0x661, 0);
        fault("1" + (char) 0xff11, 1);
        fault("1" + (char) 0, 1);
        fault("1" + (char) 65535, 1);
        right("0");
        right("999");
        right("0,0");
        right("100");
        right("10,20");
    }

    private void fault(String text, int fault) {
        TailVectors x = new TailVectors();
        x.begin(0);
        typeAll(x, text);
        due("editRead of '" + text + "'", x.editRead(), -100 - fault);
        due("nothing recorded", x.count(7), 1);
        due("nothing read", x.edit(0), 0);
    }

    private void right(String text) {
        TailVectors x = new TailVectors();
        x.begin(0);
        typeAll(x, text);
        due("editRead of '" + text + "'", x.editRead(), 0);
        due("values of '" + text + "'", x.edit(0), text.split(",").length);
    }

    private void finish() {
        check.topic("promise 12");
        TailVectors x = new TailVectors();
        due("no edit", x.finish(), NOT_POSSIBLE);
        x.begin(0);
        x.editPush(5);
        due("finish", x.finish(), 1);
        due("no window", x.vector(1, 1), 0);
        due("length", x.vector(1, 0), 1);
        due("value", x.get(1, 0), 5);
        due("no edit any more", x.finish(), NOT_POSSIBLE);
        useUpVectors(x);
        x.drop(3);
        due("no edit before full", x.finish(), NOT_POSSIBLE);
        due("begin", x.begin(1), 1);
        due("full, though one was dropped", x.finish(), FULL);
        due("the edit stays", x.edit(0), 1);
    }

    private void abandon() {
        check.topic("promise 13");
        TailVectors x = filled(5);
        due("no edit", x.abandon(), NOT_POSSIBLE);
        x.begin(1);
        x.editSet(0, 9);
        x.editPush(7);
        due("abandon", x.abandon(), 6);
        due("no edit any more", x.abandon(), NOT_POSSIBLE);
        due("no new vector", x.count(0), 2);
        due("made so far", x.count(2), 4);
        due("nobody has them", x.count(4), 2);
        due("value", x.get(1, 0), 0);
        due("next number", x.set(1, 0, 1), 2);
        due("leaf", x.block(2, 0, 0), 4);
    }

    private void type() {
        check.topic("promise 14");
        TailVectors x = new TailVectors();
        for (int i = 1; i <= 60; i++) {
            due("type", x.type((char) (i * 1000)), i);
        }
        due("full", x.type('1'), FULL);
        due("length", x.count(8), 60);
        due("no act", x.count(7), 0);
    }

    private void clearText() {
        check.topic("promise 15");
        TailVectors x = new TailVectors();
        due("empty", x.clearText(), 0);
        typeAll(x, "123");
        due("three", x.clearText(), 3);
        due("none left", x.count(8), 0);
        due("no act", x.count(7), 0);
        x.begin(0);
        due("nothing to read", x.editRead(), -100);
        typeAll(x, "7");
        due("only the new text", x.editRead(), 0);
        due("length", x.edit(0), 1);
    }

    private void undo() {
        check.topic("promise 16");
        TailVectors x = new TailVectors();
        due("nothing", x.undo(), NONE);
        for (int i = 0; i < 6; i++) {
            x.push(i, i);
        }
        due("four states", x.count(7), 4);
        due("made", x.count(2), 2);
        due("undo", x.undo(), 3);
        due("undo", x.undo(), 2);
        due("made", x.count(2), 0);
        due("vectors ever", x.count(0), 5);
        due("gone", x.vector(5, 0), UNKNOWN);
        due("numbers come again", x.push(4, 7), 5);
        due("block", x.block(5, 0, 0), 0);
        due("the history goes on", x.count(7), 3);
        x.undo();
        due("undo", x.undo(), 1);
        due("undo", x.undo(), 0);
        due("the oldest ones are lost", x.undo(), NONE);
        due("vectors ever", x.count(0), 3);
        typeAll(x, "12");
        x.push(0, 0);
        x.type('3');
        due("undo", x.undo(), 0);
        due("the text stays", x.count(8), 3);
        x.drop(1);
        due("undo", x.undo(), 0);
        due("dropped one is back", x.get(1, 0), 0);
    }

    private void undoOfTheEdit() {
        check.topic("promise 16, the edit");
        TailVectors x = filled(5);
        x.begin(1);
        x.editSet(0, 7);
        due("in place", x.editSet(0, 8), 0);
        due("undo", x.undo(), 3);
        due("finish", x.finish(), 2);
        due("value before the change in place", x.get(2, 0), 7);
        due("undo of finish", x.undo(), 3);
        due("there is the edit", x.count(5), 1);
        due("still its own", x.editSet(1, 3), 0);
        due("undo", x.undo(), 3);
        due("undo", x.undo(), 2);
        due("made", x.count(2), 2);
        due("own", x.edit(1), 0);
        due("anew", x.editSet(1, 3), 2);
        due("abandon", x.abandon(), 5);
        due("undo of abandon", x.undo(), 3);
        due("own", x.edit(1), 2);
    }

    private void whatIsRecorded() {
        check.topic("history");
        TailVectors x = new TailVectors();
        x.push(1, 0);
        x.push(0, 1000);
        x.set(0, 0, 0);
        x.pop(0);
        x.window(0, 1, 0);
        x.drop(1);
        x.begin(1);
        x.editPush(0);
        x.editSet(0, 0);
        x.editPop();
        x.editRead();
        x.finish();
        x.abandon();
        x.undo();
        x.restore();
        x.type('1');
        x.keep();
        due("no error is recorded", x.count(7), 0);
        x.push(0, 1);
        due("push", x.count(7), 1);
        x.set(1, 0, 1);
        due("set to the same value", x.count(7), 2);
        x.pop(1);
        due("pop", x.count(7), 3);
        x.window(1, 0, 1);
        due("window", x.count(7), 4);
        TailVectors y = new TailVectors();
        y.type('1');
        y.begin(0);
        due("begin", y.count(7), 1);
        y.editPush(0);
        due("editPush", y.count(7), 2);
        y.editSet(0, 0);
        due("editSet", y.count(7), 3);
        y.editPop();
        due("editPop", y.count(7), 4);
        emptyHistory(y);
        y.begin(0);
        y.editRead();
        due("editRead", y.count(7), 2);
        y.finish();
        due("finish", y.count(7), 3);
        y.drop(0);
        due("drop", y.count(7), 4);
        emptyHistory(y);
        y.begin(0);
        y.abandon();
        due("abandon", y.count(7), 2);
        y.keep();
        due("keep is no act", y.count(7), 2);
        y.restore();
        due("restore", y.count(7), 3);
    }

    private static void emptyHistory(TailVectors x) {
        while (x.count(7) > 0) {
            x.undo();
        }
    }

    private void keep() {
        check.topic("promise 17");
        TailVectors x = new TailVectors();
        due("keep", x.keep(), 0);
        due("no act", x.count(7), 0);
        x.begin(0);
        for (int i = 0; i < 5; i++) {
            x.editPush(i);
        }
        due("in place of the one before", x.keep(), 2);
        x.editSet(0, 9);
        x.abandon();
        due("restore", x.restore(), 2);
        due("with the edit", x.edit(0), 5);
        due("its own blocks", x.edit(1), 2);
        due("finish", x.finish(), 1);
        due("value before the change in place", x.get(1, 0), 0);
    }

    private void restore() {
        check.topic("promise 18");
        TailVectors x = filled(5);
        due("no snapshot", x.restore(), NONE);
        due("keep", x.keep(), 2);
        x.set(1, 0, 9);
        x.drop(0);
        due("states", x.count(7), 4);
        due("restore", x.restore(), 2);
        due("still four states", x.count(7), 4);
        due("vectors ever", x.count(0), 2);
        due("vector 0 is back", x.vector(0, 0), 0);
        due("made", x.count(2), 2);
        due("undo of restore", x.undo(), 3);
        due("vector 0 is gone", x.vector(0, 0), UNKNOWN);
        due("made", x.count(2), 4);
        due("vector 2", x.get(2, 0), 9);
        due("the snapshot stays", x.restore(), 2);
        typeAll(x, "1");
        due("and stays", x.restore(), 2);
        due("the text stays", x.count(8), 1);
        x.undo();
        x.undo();
        due("undo does not take it", x.restore(), 2);
    }

    private void get() {
        check.topic("promise 19");
        TailVectors x = filled(23);
        for (int i = 0; i < 23; i++) {
            due("get(1, " + i + ")", x.get(1, i), i);
        }
        due("behind", x.get(1, 23), UNKNOWN);
        due("before", x.get(1, -1), UNKNOWN);
        due("no vector", x.get(2, 0), UNKNOWN);
        due("no vector below", x.get(-1, 0), UNKNOWN);
        x.window(1, 5, 2);
        x.set(1, 0, 999);
        x.push(3, 1);
        due("the first value goes along", x.get(4, 0), 999);
        due("window", x.get(2, 1), 6);
        due("behind the window", x.get(2, 2), UNKNOWN);
        due("before the window", x.get(2, -1), UNKNOWN);
        due("far behind", x.get(2, Integer.MAX_VALUE), UNKNOWN);
    }

    private void vector() {
        check.topic("promise 20");
        TailVectors x = filled(71);
        int[] whole = {71, 0, 0, 71, 17, 17 + 5 + 2 + 1, 3, 3, 70 * 71 / 2, 70};
        x.window(1, 10, 3);
        int[] part = {3, 1, 10, 71, 17, 25, 3, 3, 33, 12};
        x.window(1, 71, 0);
        int[] none = {0, 1, 71, 71, 17, 25, 3, 3, 0, NONE};
        int[] empty = {0, 0, 0, 0, 0, 0, NONE, 0, 0, NONE};
        for (int what = 0; what < 10; what++) {
            due("vector(1, " + what + ")", x.vector(1, what), whole[what]);
            due("vector(2, " + what + ")", x.vector(2, what), part[what]);
            due("vector(3, " + what + ")", x.vector(3, what), none[what]);
            due("vector(0, " + what + ")", x.vector(0, what), empty[what]);
        }
        x.set(1, 0, 999);
        due("the first is the greatest", x.vector(4, 9), 999);
        due("the sum has it", x.vector(4, 8), 70 * 71 / 2 + 999);
        due("bad below", x.vector(1, -1), BAD_VALUE);
        due("bad above", x.vector(1, 10), BAD_VALUE);
        due("unknown", x.vector(5, 0), UNKNOWN);
        due("unknown before bad", x.vector(5, 10), UNKNOWN);
        int[] lengths = {4, 5, 20, 21, 68, 69, 260, 261, 300};
        int[] roots = {NONE, 1, 1, 2, 2, 3, 3, 4, 4};
        int[] leaves = {0, 1, 4, 5, 16, 17, 64, 65, 74};
        int[] blocks = {0, 2, 5, 8, 21, 25, 85, 90, 101};
        for (int i = 0; i < lengths.length; i++) {
            TailVectors y = filled(lengths[i]);
            due("root of " + lengths[i], y.vector(1, 6), roots[i]);
            due("leaves of " + lengths[i], y.vector(1, 4), leaves[i]);
            due("blocks of " + lengths[i], y.vector(1, 5), blocks[i]);
            due("tail of " + lengths[i], y.vector(1, 7), lengths[i] % 4 == 0 ? 4 : 1);
        }
    }

    private void block() {
        check.topic("promise 21");
        TailVectors x = filled(25);
        int[] leaves = {0, 2, 3, 4, 5, 8};
        for (int i = 0; i < leaves.length; i++) {
            due("leaf " + i, x.block(1, 0, i), leaves[i]);
        }
        due("level 1", x.block(1, 1, 0), 1);
        due("level 1", x.block(1, 1, 1), 6);
        due("level 2", x.block(1, 2, 0), 7);
        due("no leaf", x.block(1, 0, 6), NONE);
        due("no place", x.block(1, 1, 2), NONE);
        due("no place", x.block(1, 0, 74), NONE);
        due("no place", x.block(1, 0, 100), NONE);
        due("no level", x.block(1, 3, 0), NONE);
        due("no level", x.block(1, 4, 0), NONE);
        due("no level", x.block(1, 5, 0), NONE);
        due("no level", x.block(1, Integer.MAX_VALUE, Integer.MAX_VALUE), NONE);
        due("level below", x.block(1, -1, 0), BAD_VALUE);
        due("place below", x.block(1, 0, -1), BAD_VALUE);
        due("place below, no level", x.block(1, 9, -1), BAD_VALUE);
        due("unknown", x.block(2, 0, 0), UNKNOWN);
        due("unknown before bad", x.block(2, -1, 0), UNKNOWN);
        x.window(1, 24, 1);
        due("of the row of a window", x.block(2, 0, 0), 0);
    }

    private void shared() {
        check.topic("promise 22");
        TailVectors x = filled(41);
        due("with itself", x.shared(1, 1), 14);
        x.set(1, 0, 5);
        due("but one path", x.shared(1, 2), 11);
        x.set(2, 39, 5);
        due("but two paths", x.shared(1, 3), 9);
        due("the other way round", x.shared(3, 1), 9);
        due("one path", x.shared(2, 3), 11);
        x.window(1, 40, 1);
        due("the rows of windows", x.shared(4, 2), 11);
        due("with an empty one", x.shared(0, 1), 0);
        due("unknown", x.shared(5, 0), UNKNOWN);
        due("unknown other", x.shared(0, 5), UNKNOWN);
        due("below", x.shared(0, -1), UNKNOWN);
    }

    private void differ() {
        check.topic("promise 23");
        TailVectors x = filled(9);
        x.set(1, 3, 3);
        due("the same values", x.differ(1, 2), NONE);
        x.set(1, 3, 4);
        due("at a place", x.differ(1, 3), 3);
        x.pop(1);
        due("one is shorter", x.differ(1, 4), 8);
        due("the other is shorter", x.differ(4, 1), 8);
        due("both empty", x.differ(0, 0), NONE);
        due("one empty", x.differ(0, 1), 0);
        x.window(1, 1, 3);
        due("window", x.differ(1, 5), 0);
        x.window(1, 0, 3);
        due("window shorter", x.differ(1, 6), 3);
        due("unknown", x.differ(7, 0), UNKNOWN);
        due("unknown other", x.differ(0, 7), UNKNOWN);
    }

    private void find() {
        check.topic("promise 24");
        TailVectors x = filled(9);
        x.set(1, 7, 2);
        due("first", x.find(2, 2, 0), 2);
        due("from it", x.find(2, 2, 2), 2);
        due("next", x.find(2, 2, 3), 7);
        due("none", x.find(2, 2, 8), NONE);
        due("last", x.find(2, 8, 8), 8);
        due("from behind", x.find(2, 8, 9), NONE);
        due("from far behind", x.find(2, 8, Integer.MAX_VALUE), NONE);
        due("any number", x.find(2, -7, 0), NONE);
        due("no value outside", x.find(2, NONE, 0), NONE);
        due("from below", x.find(2, 2, -1), BAD_VALUE);
        due("unknown", x.find(3, 2, -1), UNKNOWN);
        x.window(2, 3, 4);
        due("not before the window", x.find(3, 2, 0), NONE);
        due("not behind the window", x.find(3, 8, 0), NONE);
        due("place in the window", x.find(3, 5, 1), 2);
    }

    private void wouldMake() {
        check.topic("promise 25");
        int[] lengths = {1, 4, 5, 8, 9, 20, 21, 68, 69, 72, 73, 85, 260, 261, 265, 299};
        int[] pushes = {0, 2, 0, 2, 0, 3, 0, 4, 0, 4, 0, 0, 5, 0, 0, 0};
        int[] pops = {0, 0, 0, 0, 1, 0, 0, 0, 0, 0, 3, 2, 0, 0, 4, 0};
        int[] sets = {0, 0, 2, 2, 2, 2, 3, 3, 4, 4, 4, 4, 4, 5, 5, 5};
        for (int i = 0; i < lengths.length; i++) {
            TailVectors x = filled(lengths[i]);
            int made = x.count(2);
            due("push on " + lengths[i], x.wouldMake(1, 0), pushes[i]);
            due("pop of " + lengths[i], x.wouldMake(1, 1), pops[i]);
            due("set in " + lengths[i], x.wouldMake(1, 2), sets[i]);
            due("nothing is made", x.count(2), made);
            due("nothing is recorded", x.count(7), Math.min(lengths[i] + 2, 4));
        }
        TailVectors x = filled(300);
        due("full", x.wouldMake(1, 0), NOT_POSSIBLE);
        due("pop of 300", x.wouldMake(1, 1), 0);
        due("empty", x.wouldMake(0, 0), 0);
        due("empty", x.wouldMake(0, 1), NOT_POSSIBLE);
        due("empty", x.wouldMake(0, 2), NOT_POSSIBLE);
        due("bad below", x.wouldMake(0, -1), BAD_VALUE);
        due("bad above", x.wouldMake(0, 3), BAD_VALUE);
        x.window(1, 0, 5);
        due("window", x.wouldMake(2, 2), NOT_POSSIBLE);
        due("bad before window", x.wouldMake(2, 3), BAD_VALUE);
        due("unknown before bad", x.wouldMake(3, 3), UNKNOWN);
        useUpVectors(x);
        due("though no vector can be made", x.wouldMake(1, 2), 5);
        TailVectors y = filled(5);
        y.begin(1);
        y.editSet(0, 1);
        due("without the edit", y.wouldMake(1, 2), 2);
    }

    private void edit() {
        check.topic("promise 26");
        TailVectors x = filled(21);
        due("bad before no edit", x.edit(5), BAD_VALUE);
        due("bad below", x.edit(-1), BAD_VALUE);
        due("no edit", x.edit(0), NOT_POSSIBLE);
        x.begin(1);
        checkEdit(x, 21, 0, 8, 8, 7);
        x.editSet(0, 5);
        checkEdit(x, 21, 3, 8, 5, 10);
        x.drop(1);
        checkEdit(x, 21, 3, 8, 0, 10);
        x.undo();
        x.editPop();
        checkEdit(x, 20, 2, 5, 3, 9);
        x.window(1, 0, 0);
        x.drop(1);
        checkEdit(x, 20, 2, 5, 3, 9);
        x.finish();
        x.begin(0);
        checkEdit(x, 0, 0, 0, 0, NONE);
    }

    private void checkEdit(TailVectors x, int length, int own, int blocks, int common, int root) {
        due("edit(0)", x.edit(0), length);
        due("edit(1)", x.edit(1), own);
        due("edit(2)", x.edit(2), blocks);
        due("edit(3)", x.edit(3), common);
        due("edit(4)", x.edit(4), root);
    }

    private void count() {
        check.topic("promise 27");
        TailVectors x = filled(21);
        x.set(1, 0, 5);
        x.window(1, 3, 4);
        typeAll(x, "1,2");
        int[] before = {4, 4, 11, 11, 0, 0, 46, 4, 3};
        checkCount(x, before);
        x.drop(2);
        int[] dropped = {4, 3, 11, 8, 3, 0, 25, 4, 3};
        checkCount(x, dropped);
        x.begin(1);
        x.editSet(0, 7);
        int[] edited = {4, 3, 14, 11, 3, 1, 25, 4, 3};
        checkCount(x, edited);
        x.drop(1);
        int[] windowKeepsRow = {4, 2, 14, 11, 3, 1, 4, 4, 3};
        checkCount(x, windowKeepsRow);
        x.drop(3);
        int[] editAlone = {4, 1, 14, 8, 6, 1, 0, 4, 3};
        checkCount(x, editAlone);
        due("bad below", x.count(-1), BAD_VALUE);
        due("bad above", x.count(9), BAD_VALUE);
    }

    private void checkCount(TailVectors x, int[] want) {
        for (int what = 0; what < want.length; what++) {
            due("count(" + what + ")", x.count(what), want[what]);
        }
    }

    /** No call throws, whatever its arguments are. */
    private void wildArguments() {
        check.topic("wild arguments");
        for (int length : new int[] {0, 5, 300}) {
            for (int a : WILD) {
                for (int b : WILD) {
                    TailVectors x = filled(length);
                    x.keep();
                    askAll(x, a, b);
                    x.begin(1);
                    askAll(x, a, b);
                    due("restore", x.restore(), x.count(2));
                    due("length", x.vector(1, 0), length);
                }
            }
        }
    }

    private static void askAll(TailVectors x, int a, int b) {
        x.push(a, b);
        x.set(a, b, b);
        x.set(1, a, b);
        x.pop(a);
        x.window(a, b, b);
        x.window(1, a, b);
        x.editPush(a);
        x.editSet(a, b);
        x.editPop();
        x.get(a, b);
        x.get(1, a);
        x.vector(a, b);
        x.vector(1, b);
        x.block(a, b, b);
        x.block(1, a, b);
        x.shared(a, b);
        x.differ(a, b);
        x.find(a, b, b);
        x.find(1, a, b);
        x.wouldMake(a, b);
        x.wouldMake(1, b);
        x.edit(a);
        x.count(a);
        x.begin(a);
        x.drop(a);
    }
}
