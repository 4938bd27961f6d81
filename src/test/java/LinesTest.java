/** The limits of the lines of each promise from inside: what is just allowed, and its answer. */
public final class LinesTest {
    private static final int UNKNOWN = -1;
    private static final int NOT_POSSIBLE = -4;
    private static final int NONE = -5;

    private final Check check = new Check();

    public static void main(String[] args) {
        LinesTest test = new LinesTest();
        test.makers();
        test.edits();
        test.textsAndHistory();
        test.told();
        test.check.end();
    }

    private void makers() {
        newObject();
        push();
        set();
        pop();
        window();
        drop();
    }

    private void edits() {
        begin();
        editPush();
        editSet();
        editPop();
        editRead();
        finish();
        abandon();
    }

    private void textsAndHistory() {
        type();
        clearText();
        undo();
        keep();
        restore();
    }

    private void told() {
        get();
        vector();
        block();
        shared();
        differ();
        find();
        wouldMake();
        edit();
        count();
    }

    private void due(String call, long got, long want) {
        check.due(call, got, want);
    }

    private void newObject() {
        check.topic("TailVectors(): Creates the empty vector 0");
        TailVectors x = new TailVectors();
        int[] counts = {1, 1, 0, 0, 0, 0, 0, 0, 0};
        for (int what = 0; what < counts.length; what++) {
            due("count(" + what + ")", x.count(what), counts[what]);
        }
        due("length", x.vector(0, 0), 0);
        due("greatest", x.vector(0, 9), NONE);
    }

    private void push() {
        check.topic("push: the least and the greatest value, vector and length");
        TailVectors x = new TailVectors();
        due("0 on an empty vector", x.push(0, 0), 1);
        due("999", x.push(0, 999), 2);
        due("values", x.get(1, 0), 0);
        due("values", x.get(2, 0), 999);
        Make.vectorsUpTo(x, 23);
        due("on the last number but one", x.push(22, 5), 23);
        due("a window of it", x.vector(23, 1), 1);
        TailVectors y = Make.filled(299);
        due("a row of 300", y.push(1, 5), 2);
        due("length", y.vector(2, 0), 300);
        y.window(1, 299, 0);
        due("a window of a row of 300", y.push(3, 6), 4);
        due("length of the row", y.vector(4, 3), 300);
    }

    private void set() {
        check.topic("set: the first and the last place");
        TailVectors x = Make.filled(6);
        due("the first place", x.set(1, 0, 999), 2);
        due("the last place", x.set(1, 5, 0), 3);
        due("first value", x.get(2, 0), 999);
        due("last value", x.get(3, 5), 0);
        TailVectors y = Make.filled(300);
        due("the last place of all", y.set(1, 299, 500), 2);
        due("the last place of a leaf", y.set(1, 295, 501), 3);
        due("values", y.get(2, 299), 500);
        due("values", y.get(3, 295), 501);
        due("made by the second alone", y.count(2), 101 + 5);
    }

    private void pop() {
        check.topic("pop: the only value, and one of 300");
        TailVectors x = Make.filled(1);
        due("the only one", x.pop(1), 2);
        due("length", x.vector(2, 0), 0);
        due("sum", x.vector(2, 8), 0);
        TailVectors y = Make.filled(300);
        due("one of 300", y.pop(1), 2);
        due("length", y.vector(2, 0), 299);
        due("room again", y.push(2, 1), 3);
    }

    private void window() {
        check.topic("window: first, 0 to the length; many, 0 to the length less first");
        TailVectors x = Make.filled(9);
        due("all", x.window(1, 0, 9), 2);
        due("none at the beginning", x.window(1, 0, 0), 3);
        due("none at the end", x.window(1, 9, 0), 4);
        due("the last one", x.window(1, 8, 1), 5);
        due("all but the first", x.window(1, 1, 8), 6);
        due("all of a window", x.window(6, 0, 8), 7);
        due("none at the end of a window", x.window(6, 8, 0), 8);
        due("the last one of a window", x.window(6, 7, 1), 9);
        due("of an empty window", x.window(4, 0, 0), 10);
        due("of an empty vector", x.window(0, 0, 0), 11);
        int[] firsts = {0, 0, 9, 8, 1, 1, 9, 8, 9, 0};
        int[] lengths = {9, 0, 0, 1, 8, 8, 0, 1, 0, 0};
        for (int i = 0; i < firsts.length; i++) {
            due("first of " + (i + 2), x.vector(i + 2, 2), firsts[i]);
            due("length of " + (i + 2), x.vector(i + 2, 0), lengths[i]);
            due("row of " + (i + 2), x.vector(i + 2, 3), i < 9 ? 9 : 0);
        }
        due("the last value", x.get(9, 0), 8);
        due("nothing is made", x.count(2), 3);
    }

    private void drop() {
        check.topic("drop: Returns how many vectors are left");
        TailVectors x = new TailVectors();
        due("the only one", x.drop(0), 0);
        due("none is left", x.count(1), 0);
        due("ever", x.count(0), 1);
        due("undo", x.undo(), 0);
        due("it is back", x.vector(0, 0), 0);
        Make.vectorsUpTo(x, 24);
        due("the last number", x.drop(23), 23);
        due("it is gone", x.vector(23, 0), UNKNOWN);
        due("the one before is there", x.vector(22, 0), 0);
    }

    private void begin() {
        check.topic("begin: Returns the length of its row");
        due("of 0", new TailVectors().begin(0), 0);
        due("of 1", Make.filled(1).begin(1), 1);
        due("of 300", Make.filled(300).begin(1), 300);
    }

    private void editPush() {
        check.topic("editPush: Returns how many blocks are made by that");
        int[] lengths = {0, 3, 4, 8, 20, 68, 72, 260, 264, 299};
        int[] made = {0, 0, 2, 2, 3, 4, 4, 5, 5, 0};
        for (int i = 0; i < lengths.length; i++) {
            TailVectors x = Make.filled(lengths[i]);
            x.begin(1);
            due("on " + lengths[i], x.editPush(999), made[i]);
            due("length", x.edit(0), lengths[i] + 1);
        }
    }

    private void editSet() {
        check.topic("editSet: the first and the last place");
        TailVectors x = Make.filled(300);
        x.begin(1);
        due("the first", x.editSet(0, 999), 5);
        due("the last", x.editSet(299, 0), 0);
        due("the last of a leaf", x.editSet(295, 1), 4);
        x.finish();
        due("first value", x.get(2, 0), 999);
        due("last value", x.get(2, 299), 0);
        due("value", x.get(2, 295), 1);
    }

    private void editPop() {
        check.topic("editPop: Returns how many blocks are made by that");
        int[] lengths = {1, 2, 5, 9, 21, 25, 37, 41, 69, 73, 85, 261, 265, 300};
        int[] made = {0, 0, 0, 1, 0, 2, 1, 2, 0, 3, 2, 0, 4, 0};
        for (int i = 0; i < lengths.length; i++) {
            TailVectors x = Make.filled(lengths[i]);
            x.begin(1);
            due("of " + lengths[i], x.editPop(), made[i]);
            due("length", x.edit(0), lengths[i] - 1);
        }
    }

    private void editRead() {
        check.topic("editRead: Pushes the values of the text, which stays");
        TailVectors x = Make.filled(297);
        x.begin(1);
        Make.typeAll(x, "0,10,999");
        due("to 300 values", x.editRead(), 0);
        due("length", x.edit(0), 300);
        due("the text stays", x.count(8), 8);
        x.finish();
        due("first value", x.get(2, 297), 0);
        due("second value", x.get(2, 298), 10);
        due("third value", x.get(2, 299), 999);
        TailVectors y = new TailVectors();
        y.begin(0);
        Make.typeAll(y, "1,2,3,4,5,6,7,8,9");
        due("two leaves and a root", y.editRead(), 3);
        due("one act", y.count(7), 2);
        due("again: two leaves", y.editRead(), 2);
        due("length", y.edit(0), 18);
        y.finish();
        due("the tenth value", y.get(1, 9), 1);
    }

    private void finish() {
        check.topic("finish: Returns the number of the new vector");
        TailVectors x = new TailVectors();
        x.begin(0);
        due("an empty row", x.finish(), 1);
        due("length", x.vector(1, 0), 0);
        due("no window", x.vector(1, 1), 0);
        Make.vectorsUpTo(x, 23);
        x.begin(0);
        due("the last number", x.finish(), 23);
    }

    private void abandon() {
        check.topic("abandon: Returns the length of its row");
        TailVectors x = Make.filled(300);
        x.begin(0);
        due("of 0", x.abandon(), 0);
        x.begin(1);
        due("of 300", x.abandon(), 300);
        x.begin(1);
        x.editPop();
        due("of 299", x.abandon(), 299);
        Make.vectorsUpTo(x, 24);
        x.begin(1);
        due("without room for a vector", x.abandon(), 300);
    }

    private void type() {
        check.topic("type: Returns the length of the text then");
        TailVectors x = new TailVectors();
        due("the first", x.type((char) 0), 1);
        due("the last sign of all", x.type((char) 0xffff), 2);
        for (int i = 3; i <= 60; i++) {
            due("number " + i, x.type(','), i);
        }
    }

    private void clearText() {
        check.topic("clearText: Returns the length that it had");
        TailVectors x = new TailVectors();
        due("none", x.clearText(), 0);
        x.type('1');
        due("one", x.clearText(), 1);
        for (int i = 0; i < 61; i++) {
            x.type('1');
        }
        due("sixty", x.clearText(), 60);
        due("none", x.clearText(), 0);
    }

    private void undo() {
        check.topic("undo: Returns the number of states that are left");
        TailVectors x = new TailVectors();
        x.push(0, 1);
        due("none left", x.undo(), 0);
        for (int i = 0; i < 5; i++) {
            x.push(0, 1);
        }
        due("three left", x.undo(), 3);
        due("vectors", x.count(0), 5);
    }

    private void keep() {
        check.topic("keep: Returns how many blocks were made so far");
        TailVectors x = new TailVectors();
        due("none", x.keep(), 0);
        TailVectors y = Make.filled(300);
        due("all", y.keep(), 101);
        y.set(1, 0, 1);
        y.drop(2);
        due("also those that nobody uses", y.keep(), 106);
        y.undo();
        y.undo();
        due("not those that were undone", y.keep(), 101);
    }

    private void restore() {
        check.topic("restore: Returns how many blocks were made so far then");
        TailVectors x = new TailVectors();
        x.keep();
        Make.fillEdit(x, 300);
        due("none", x.restore(), 0);
        due("no edit", x.count(5), 0);
        due("undo", x.undo(), 3);
        due("the edit", x.edit(0), 300);
        x.keep();
        x.abandon();
        due("all", x.restore(), 101);
        due("the edit", x.edit(0), 300);
        due("all are its own", x.edit(1), 101);
    }

    private void get() {
        check.topic("get: a place in it, from 0");
        TailVectors x = Make.filled(300);
        for (int place = 0; place < 300; place++) {
            due("place " + place, x.get(1, place), place % 10);
        }
        due("behind", x.get(1, 300), UNKNOWN);
        x.window(1, 295, 5);
        due("first of a window", x.get(2, 0), 5);
        due("last of a window", x.get(2, 4), 9);
        due("behind it", x.get(2, 5), UNKNOWN);
    }

    private void vector() {
        check.topic("vector: each number for the longest row, an end of it and nothing of it");
        TailVectors x = Make.filled(300);
        x.window(1, 299, 1);
        x.window(1, 300, 0);
        int[][] dues = {
            {300, 0, 0, 300, 74, 101, 4, 4, 1350, 9},
            {1, 1, 299, 300, 74, 101, 4, 4, 9, 9},
            {0, 1, 300, 300, 74, 101, 4, 4, 0, NONE},
        };
        for (int i = 0; i < dues.length; i++) {
            for (int what = 0; what < 10; what++) {
                due("vector(" + (i + 1) + ", " + what + ")", x.vector(i + 1, what), dues[i][what]);
            }
        }
        x.push(0, 0);
        due("the greatest is 0", x.vector(4, 9), 0);
        due("the sum is 0", x.vector(4, 8), 0);
    }

    private void block() {
        check.topic("block: the first and the last block of each level");
        TailVectors x = Make.filled(300);
        int[] sizes = {74, 19, 5, 2, 1, 0};
        for (int level = 0; level < sizes.length; level++) {
            check.that("last of level " + level, sizes[level] == 0 || x.block(1, level, sizes[level] - 1) >= 0);
            due("behind the last of level " + level, x.block(1, level, sizes[level]), NONE);
        }
        due("first leaf", x.block(1, 0, 0), 0);
        due("first block above", x.block(1, 1, 0), 1);
        due("last leaf", x.block(1, 0, 73), 100);
        x.window(1, 0, 0);
        due("of the row, though nothing is shown", x.block(2, 0, 73), 100);
    }

    private void shared() {
        check.topic("shared: Returns how many blocks the rows of both share");
        TailVectors x = Make.filled(300);
        due("all with itself", x.shared(1, 1), 101);
        due("none with an empty one", x.shared(1, 0), 0);
        due("none of none", x.shared(0, 0), 0);
        x.window(1, 0, 0);
        x.window(1, 300, 0);
        due("all by windows that show nothing", x.shared(2, 3), 101);
        x.set(1, 0, 0);
        due("all but a path", x.shared(4, 1), 96);
        due("the other way round", x.shared(1, 4), 96);
        TailVectors y = new TailVectors();
        Make.fillEdit(y, 9);
        y.finish();
        Make.fillEdit(y, 9);
        y.finish();
        due("the same values, but made twice", y.shared(1, 2), 0);
        due("they do not differ", y.differ(1, 2), NONE);
    }

    private void differ() {
        check.topic("differ: the first place at which they differ, or at which one has no value");
        TailVectors x = Make.filled(300);
        x.set(1, 0, 5);
        x.set(1, 299, 5);
        x.pop(1);
        due("at the first place", x.differ(1, 2), 0);
        due("at the last place", x.differ(1, 3), 299);
        due("where one has no value", x.differ(1, 4), 299);
        due("where the other has none", x.differ(4, 1), 299);
        due("of none", x.differ(0, 1), 0);
        due("of none, the other way round", x.differ(1, 0), 0);
        due("of nothing and nothing", x.differ(0, 0), NONE);
        x.window(1, 10, 10);
        x.window(1, 20, 10);
        due("windows at other places", x.differ(5, 6), NONE);
        x.window(1, 20, 9);
        due("a shorter one", x.differ(5, 7), 9);
    }

    private void find() {
        check.topic("find: a place from which on it is looked for, 0 or greater");
        TailVectors x = Make.filled(300);
        due("from the first", x.find(1, 0, 0), 0);
        due("from the next", x.find(1, 0, 1), 10);
        due("from the last", x.find(1, 9, 299), 299);
        due("from behind the last", x.find(1, 9, 300), NONE);
        x.window(1, 5, 5);
        due("in a window", x.find(2, 9, 0), 4);
        due("from its last", x.find(2, 9, 4), 4);
        due("from behind its last", x.find(2, 9, 5), NONE);
        due("what lies before it", x.find(2, 4, 0), NONE);
        due("what lies behind it", x.find(2, 0, 0), NONE);
    }

    private void wouldMake() {
        check.topic("wouldMake: the least and the greatest row");
        TailVectors x = new TailVectors();
        due("push on nothing", x.wouldMake(0, 0), 0);
        TailVectors y = Make.filled(1);
        due("pop of the only one", y.wouldMake(1, 1), 0);
        due("set of the only one", y.wouldMake(1, 2), 0);
        TailVectors z = Make.filled(299);
        due("the last push", z.wouldMake(1, 0), 0);
        z.push(1, 1);
        due("pop of 300", z.wouldMake(2, 1), 0);
        due("set in 300", z.wouldMake(2, 2), 5);
        z.begin(2);
        z.editSet(0, 1);
        due("an edit has no part in it", z.wouldMake(2, 2), 5);
        Make.vectorsUpTo(z, 24);
        due("nor has the room for vectors", z.wouldMake(2, 2), 5);
        due("nothing is made", z.count(2), 106);
        wouldMakeOnVectorsMadeMeanwhile();
    }

    private void wouldMakeOnVectorsMadeMeanwhile() {
        check.topic("wouldMake: without an edit, also on what was made while there is one");
        TailVectors x = Make.filled(9);
        x.begin(1);
        x.set(1, 0, 5);
        due("pop", x.wouldMake(2, 1), 1);
        due("set", x.wouldMake(2, 2), 2);
        TailVectors y = Make.filled(8);
        y.begin(1);
        y.set(1, 0, 5);
        due("push", y.wouldMake(2, 0), 2);
        wouldMakeOneAfterTheOther();
    }

    private void wouldMakeOneAfterTheOther() {
        check.topic("wouldMake: whatever was asked before, and nothing changes");
        int[] lengths = {0, 9, 85, 296};
        int[] pushing = {0, 0, 0, 5};
        int[] popping = {NOT_POSSIBLE, 1, 2, 0};
        int[] setting = {NOT_POSSIBLE, 2, 4, 5};
        TailVectors x = new TailVectors();
        for (int length : lengths) {
            Make.fillEdit(x, length);
            x.finish();
        }
        int made = x.count(2);
        for (int i = 0; i < lengths.length * lengths.length; i++) {
            int other = i % lengths.length;
            x.wouldMake(i / lengths.length + 1, i % 3);
            due("push on " + lengths[other], x.wouldMake(other + 1, 0), pushing[other]);
            due("pop of " + lengths[other], x.wouldMake(other + 1, 1), popping[other]);
            due("set in " + lengths[other], x.wouldMake(other + 1, 2), setting[other]);
        }
        due("made", x.count(2), made);
        for (int i = 0; i < lengths.length - 1; i++) {
            due("length", x.vector(i + 1, 3), lengths[i]);
            due("the same values as far as they go", x.differ(i + 1, lengths.length), lengths[i]);
        }
    }

    private void edit() {
        check.topic("edit: an empty row, and the longest one");
        TailVectors x = Make.filled(300);
        x.begin(0);
        checkEdit(x, 0, 0, 0, 0, NONE);
        x.abandon();
        x.begin(1);
        checkEdit(x, 300, 0, 101, 101, 89);
        x.window(1, 0, 0);
        checkEdit(x, 300, 0, 101, 101, 89);
        x.drop(1);
        checkEdit(x, 300, 0, 101, 101, 89);
        x.drop(2);
        checkEdit(x, 300, 0, 101, 0, 89);
        x.editSet(0, 1);
        checkEdit(x, 300, 5, 101, 0, 105);
        x.undo();
        x.undo();
        x.editSet(0, 1);
        checkEdit(x, 300, 5, 101, 96, 105);
    }

    private void checkEdit(TailVectors x, int length, int own, int blocks, int common, int root) {
        due("edit(0)", x.edit(0), length);
        due("edit(1)", x.edit(1), own);
        due("edit(2)", x.edit(2), blocks);
        due("edit(3)", x.edit(3), common);
        due("edit(4)", x.edit(4), root);
    }

    private void count() {
        check.topic("count: what dropped vectors, windows and the edit have");
        TailVectors x = Make.filled(300);
        x.window(1, 0, 0);
        checkCount(x, new int[] {3, 3, 101, 101, 0, 0, 300, 4, 0});
        x.drop(1);
        checkCount(x, new int[] {3, 2, 101, 101, 0, 0, 0, 4, 0});
        x.drop(2);
        checkCount(x, new int[] {3, 1, 101, 0, 101, 0, 0, 4, 0});
        x.undo();
        x.undo();
        x.begin(1);
        x.drop(1);
        x.drop(2);
        checkCount(x, new int[] {3, 1, 101, 101, 0, 1, 0, 4, 0});
        x.drop(0);
        x.abandon();
        x.type('1');
        checkCount(x, new int[] {3, 0, 101, 0, 101, 0, 0, 4, 1});
    }

    private void checkCount(TailVectors x, int[] want) {
        for (int what = 0; what < want.length; what++) {
            due("count(" + what + ")", x.count(what), want[what]);
        }
    }
}
