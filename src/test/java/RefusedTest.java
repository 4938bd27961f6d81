import java.util.function.Consumer;
import java.util.function.ToIntFunction;

/**
 * Each error and each NONE of the @return lines, and each two of them at once in the order of the
 * line; with each: "A call that returns an error or NONE changes nothing". And each act, with:
 * "records the state that was before it".
 */
public final class RefusedTest {
    private static final int UNKNOWN = -1;
    private static final int BAD_VALUE = -2;
    private static final int FULL = -3;
    private static final int NOT_POSSIBLE = -4;
    private static final int NONE = -5;
    private static final int LEAST = Integer.MIN_VALUE;
    private static final int GREATEST = Integer.MAX_VALUE;

    private final Check check = new Check();

    public static void main(String[] args) {
        RefusedTest test = new RefusedTest();
        test.push();
        test.set();
        test.pop();
        test.window();
        test.drop();
        test.begin();
        test.editPush();
        test.editSet();
        test.editPop();
        test.editRead();
        test.finish();
        test.abandon();
        test.texts();
        test.history();
        test.getAndBlock();
        test.sharedAndDiffer();
        test.findAndWouldMake();
        test.what();
        test.acts();
        test.noActs();
        test.whatIsTold();
        test.check.end();
    }

    // ---- states to begin with

    /** Vector 1 of 21 values, 2 a window of it, 3 dropped, 4 empty; text, history and snapshot. */
    private static void plain(TailVectors x) {
        Make.fillEdit(x, 21);
        x.finish();
        x.window(1, 3, 4);
        x.keep();
        x.set(1, 0, 500);
        x.window(1, 21, 0);
        x.drop(3);
        x.type('7');
    }

    private static void plainWithEdit(TailVectors x) {
        plain(x);
        x.begin(1);
        x.editSet(0, 501);
    }

    private static void emptyEdit(TailVectors x) {
        plain(x);
        x.begin(0);
    }

    private static void noRoom(TailVectors x) {
        plain(x);
        Make.vectorsUpTo(x, 24);
    }

    private static void noRoomWithEdit(TailVectors x) {
        plainWithEdit(x);
        Make.vectorsUpTo(x, 24);
    }

    /** Vector 1 of 300 values, 2 a window of its end. */
    private static void longest(TailVectors x) {
        Make.fillEdit(x, 300);
        x.finish();
        x.window(1, 298, 2);
        x.keep();
        x.type('7');
    }

    private static void longestEdit(TailVectors x) {
        longest(x);
        x.begin(1);
    }

    private static void fresh(TailVectors x) {
        x.count(0);
    }

    private static void text(TailVectors x, String text) {
        plainWithEdit(x);
        Make.typeAll(x, text);
    }

    private static void fullText(TailVectors x) {
        plain(x);
        for (int i = 0; i < 59; i++) {
            x.type('1');
        }
    }

    // ---- comparing

    private static TailVectors object(Consumer<TailVectors> state) {
        TailVectors x = new TailVectors();
        state.accept(x);
        return x;
    }

    /** The call answers so, and then all that can be told of the object is as it was without it. */
    private void refused(int want, Consumer<TailVectors> state, ToIntFunction<TailVectors> call) {
        check.due("answer", call.applyAsInt(object(state)), want);
        int states = object(state).count(7);
        for (int undos = 0; undos <= states; undos++) {
            TailVectors before = object(state);
            TailVectors after = object(state);
            call.applyAsInt(after);
            check.due("states in the history", after.count(7), states);
            for (int i = 0; i < undos; i++) {
                check.due("undo", after.undo(), before.undo());
            }
            same("after " + undos + " undos", Make.told(after), Make.told(before));
        }
        TailVectors before = object(state);
        TailVectors after = object(state);
        call.applyAsInt(after);
        check.due("restore", after.restore(), before.restore());
        same("after restore", Make.told(after), Make.told(before));
    }

    private void same(String what, String got, String want) {
        check.that(what + ": " + got + "\n, due is " + want, got.equals(want));
    }

    /** The call answers so, and one state more is recorded, which undo brings back. */
    private void act(int want, Consumer<TailVectors> state, ToIntFunction<TailVectors> call) {
        TailVectors before = object(state);
        TailVectors after = object(state);
        int states = Math.min(before.count(7), 3);
        check.due("answer", call.applyAsInt(after), want);
        check.due("states", after.count(7), Math.min(before.count(7) + 1, 4));
        check.due("undo", after.undo(), states);
        same("after undo", Make.told(after), Make.told(before));
    }

    private void due(String call, long got, long want) {
        check.due(call, got, want);
    }

    // ---- vectors out of vectors

    private void push() {
        check.topic("push: UNKNOWN");
        refused(UNKNOWN, RefusedTest::plain, x -> x.push(3, 0));
        refused(UNKNOWN, RefusedTest::plain, x -> x.push(5, 0));
        refused(UNKNOWN, RefusedTest::plain, x -> x.push(-1, 0));
        check.topic("push: BAD_VALUE");
        refused(BAD_VALUE, RefusedTest::plain, x -> x.push(1, -1));
        refused(BAD_VALUE, RefusedTest::plain, x -> x.push(1, 1000));
        refused(BAD_VALUE, RefusedTest::plain, x -> x.push(2, LEAST));
        refused(BAD_VALUE, RefusedTest::plain, x -> x.push(4, GREATEST));
        check.topic("push: FULL if there have been 24, or its row would have more than 300 values");
        refused(FULL, RefusedTest::noRoom, x -> x.push(1, 0));
        refused(FULL, RefusedTest::longest, x -> x.push(1, 0));
        refused(FULL, RefusedTest::longest, x -> x.push(2, 0));
        check.topic("push: UNKNOWN before BAD_VALUE before FULL");
        refused(UNKNOWN, RefusedTest::plain, x -> x.push(3, 1000));
        refused(UNKNOWN, RefusedTest::noRoom, x -> x.push(3, 0));
        refused(BAD_VALUE, RefusedTest::noRoom, x -> x.push(1, 1000));
        refused(BAD_VALUE, RefusedTest::longest, x -> x.push(1, -1));
        refused(UNKNOWN, RefusedTest::noRoom, x -> x.push(24, -1));
    }

    private void set() {
        check.topic("set: UNKNOWN (vector or place)");
        refused(UNKNOWN, RefusedTest::plain, x -> x.set(3, 0, 0));
        refused(UNKNOWN, RefusedTest::plain, x -> x.set(1, 21, 0));
        refused(UNKNOWN, RefusedTest::plain, x -> x.set(1, -1, 0));
        refused(UNKNOWN, RefusedTest::plain, x -> x.set(2, 4, 0));
        refused(UNKNOWN, RefusedTest::plain, x -> x.set(4, 0, 0));
        refused(UNKNOWN, RefusedTest::plain, x -> x.set(0, 0, 0));
        refused(UNKNOWN, RefusedTest::plain, x -> x.set(2, GREATEST, 0));
        refused(UNKNOWN, RefusedTest::plain, x -> x.set(2, LEAST, 0));
        check.topic("set: BAD_VALUE");
        refused(BAD_VALUE, RefusedTest::plain, x -> x.set(1, 0, -1));
        refused(BAD_VALUE, RefusedTest::plain, x -> x.set(1, 20, 1000));
        check.topic("set: FULL if there have been 24");
        refused(FULL, RefusedTest::noRoom, x -> x.set(1, 0, 0));
        check.topic("set: UNKNOWN before BAD_VALUE before FULL");
        refused(UNKNOWN, RefusedTest::plain, x -> x.set(3, 0, 1000));
        refused(UNKNOWN, RefusedTest::plain, x -> x.set(1, 21, 1000));
        refused(UNKNOWN, RefusedTest::noRoom, x -> x.set(3, 0, 0));
        refused(UNKNOWN, RefusedTest::noRoom, x -> x.set(1, 21, 0));
        refused(BAD_VALUE, RefusedTest::noRoom, x -> x.set(1, 0, 1000));
    }

    private void pop() {
        check.topic("pop: UNKNOWN");
        refused(UNKNOWN, RefusedTest::plain, x -> x.pop(3));
        check.topic("pop: NOT_POSSIBLE if it is empty");
        refused(NOT_POSSIBLE, RefusedTest::plain, x -> x.pop(0));
        refused(NOT_POSSIBLE, RefusedTest::plain, x -> x.pop(4));
        check.topic("pop: FULL if there have been 24");
        refused(FULL, RefusedTest::noRoom, x -> x.pop(1));
        refused(FULL, RefusedTest::noRoom, x -> x.pop(2));
        check.topic("pop: UNKNOWN before NOT_POSSIBLE before FULL");
        refused(UNKNOWN, RefusedTest::noRoom, x -> x.pop(3));
        refused(NOT_POSSIBLE, RefusedTest::noRoom, x -> x.pop(0));
        refused(NOT_POSSIBLE, RefusedTest::noRoom, x -> x.pop(4));
    }

    private void window() {
        check.topic("window: UNKNOWN");
        refused(UNKNOWN, RefusedTest::plain, x -> x.window(3, 0, 0));
        check.topic("window: first, 0 to the length of the vector");
        refused(BAD_VALUE, RefusedTest::plain, x -> x.window(1, -1, 0));
        refused(BAD_VALUE, RefusedTest::plain, x -> x.window(1, 22, 0));
        refused(BAD_VALUE, RefusedTest::plain, x -> x.window(2, 5, 0));
        refused(BAD_VALUE, RefusedTest::plain, x -> x.window(2, -1, 2));
        refused(BAD_VALUE, RefusedTest::plain, x -> x.window(0, 1, 0));
        refused(BAD_VALUE, RefusedTest::plain, x -> x.window(1, LEAST, 0));
        refused(BAD_VALUE, RefusedTest::plain, x -> x.window(1, GREATEST, 0));
        check.topic("window: many, 0 to the length of the vector less first");
        refused(BAD_VALUE, RefusedTest::plain, x -> x.window(1, 0, -1));
        refused(BAD_VALUE, RefusedTest::plain, x -> x.window(1, 0, 22));
        refused(BAD_VALUE, RefusedTest::plain, x -> x.window(1, 21, 1));
        refused(BAD_VALUE, RefusedTest::plain, x -> x.window(1, 20, 2));
        refused(BAD_VALUE, RefusedTest::plain, x -> x.window(2, 0, 5));
        refused(BAD_VALUE, RefusedTest::plain, x -> x.window(2, 4, 1));
        refused(BAD_VALUE, RefusedTest::plain, x -> x.window(0, 0, 1));
        refused(BAD_VALUE, RefusedTest::plain, x -> x.window(1, 1, GREATEST));
        refused(BAD_VALUE, RefusedTest::plain, x -> x.window(1, 1, LEAST));
        refused(BAD_VALUE, RefusedTest::plain, x -> x.window(1, GREATEST, GREATEST));
        refused(BAD_VALUE, RefusedTest::plain, x -> x.window(1, LEAST, LEAST));
        refused(BAD_VALUE, RefusedTest::plain, x -> x.window(1, 21, -21));
        check.topic("window: FULL if there have been 24");
        refused(FULL, RefusedTest::noRoom, x -> x.window(1, 0, 21));
        check.topic("window: UNKNOWN before BAD_VALUE before FULL");
        refused(UNKNOWN, RefusedTest::plain, x -> x.window(3, -1, -1));
        refused(UNKNOWN, RefusedTest::noRoom, x -> x.window(3, 0, 0));
        refused(BAD_VALUE, RefusedTest::noRoom, x -> x.window(1, 22, 0));
        refused(BAD_VALUE, RefusedTest::noRoom, x -> x.window(1, 0, 22));
    }

    private void drop() {
        check.topic("drop: UNKNOWN");
        refused(UNKNOWN, RefusedTest::plain, x -> x.drop(3));
        refused(UNKNOWN, RefusedTest::plain, x -> x.drop(5));
        refused(UNKNOWN, RefusedTest::plain, x -> x.drop(-1));
        refused(UNKNOWN, RefusedTest::noRoom, x -> x.drop(24));
    }

    // ---- the edit

    private void begin() {
        check.topic("begin: UNKNOWN");
        refused(UNKNOWN, RefusedTest::plain, x -> x.begin(3));
        check.topic("begin: NOT_POSSIBLE if there is an edit, or the vector is a window");
        refused(NOT_POSSIBLE, RefusedTest::plainWithEdit, x -> x.begin(1));
        refused(NOT_POSSIBLE, RefusedTest::plainWithEdit, x -> x.begin(0));
        refused(NOT_POSSIBLE, RefusedTest::plain, x -> x.begin(2));
        refused(NOT_POSSIBLE, RefusedTest::plain, x -> x.begin(4));
        check.topic("begin: UNKNOWN before NOT_POSSIBLE");
        refused(UNKNOWN, RefusedTest::plainWithEdit, x -> x.begin(3));
    }

    private void editPush() {
        check.topic("editPush: NOT_POSSIBLE if there is no edit");
        refused(NOT_POSSIBLE, RefusedTest::plain, x -> x.editPush(0));
        check.topic("editPush: BAD_VALUE");
        refused(BAD_VALUE, RefusedTest::plainWithEdit, x -> x.editPush(-1));
        refused(BAD_VALUE, RefusedTest::plainWithEdit, x -> x.editPush(1000));
        check.topic("editPush: FULL if its row has 300 values");
        refused(FULL, RefusedTest::longestEdit, x -> x.editPush(0));
        check.topic("editPush: NOT_POSSIBLE before BAD_VALUE before FULL");
        refused(NOT_POSSIBLE, RefusedTest::plain, x -> x.editPush(1000));
        refused(BAD_VALUE, RefusedTest::longestEdit, x -> x.editPush(-1));
    }

    private void editSet() {
        check.topic("editSet: NOT_POSSIBLE if there is no edit");
        refused(NOT_POSSIBLE, RefusedTest::plain, x -> x.editSet(0, 0));
        check.topic("editSet: UNKNOWN (place)");
        refused(UNKNOWN, RefusedTest::plainWithEdit, x -> x.editSet(21, 0));
        refused(UNKNOWN, RefusedTest::plainWithEdit, x -> x.editSet(-1, 0));
        refused(UNKNOWN, RefusedTest::plainWithEdit, x -> x.editSet(GREATEST, 0));
        refused(UNKNOWN, RefusedTest::plainWithEdit, x -> x.editSet(LEAST, 0));
        refused(UNKNOWN, RefusedTest::emptyEdit, x -> x.editSet(0, 0));
        refused(UNKNOWN, RefusedTest::longestEdit, x -> x.editSet(300, 0));
        check.topic("editSet: BAD_VALUE");
        refused(BAD_VALUE, RefusedTest::plainWithEdit, x -> x.editSet(0, -1));
        refused(BAD_VALUE, RefusedTest::plainWithEdit, x -> x.editSet(20, 1000));
        check.topic("editSet: NOT_POSSIBLE before UNKNOWN before BAD_VALUE");
        refused(NOT_POSSIBLE, RefusedTest::plain, x -> x.editSet(-1, 0));
        refused(NOT_POSSIBLE, RefusedTest::plain, x -> x.editSet(0, 1000));
        refused(UNKNOWN, RefusedTest::plainWithEdit, x -> x.editSet(21, 1000));
    }

    private void editPop() {
        check.topic("editPop: NOT_POSSIBLE if there is no edit, or its row is empty");
        refused(NOT_POSSIBLE, RefusedTest::plain, x -> x.editPop());
        refused(NOT_POSSIBLE, RefusedTest::emptyEdit, x -> x.editPop());
    }

    private void editRead() {
        check.topic("editRead: NOT_POSSIBLE if there is no edit");
        refused(NOT_POSSIBLE, RefusedTest::plain, x -> x.editRead());
        check.topic("editRead: -100 minus the fault of the text if it has one (which is an error)");
        refused(-100, x -> text(x, ""), x -> x.editRead());
        refused(-102, x -> text(x, "1,"), x -> x.editRead());
        refused(-107, x -> text(x, "1,2,0,01"), x -> x.editRead());
        refused(-112, x -> text(x, "1,22,333,4444"), x -> x.editRead());
        check.topic("editRead: FULL if its row would have more than 300 values");
        refused(FULL, RefusedTest::longestEdit, x -> x.editRead());
        refused(FULL, RefusedTest::almostLongestEdit, x -> x.editRead());
        check.topic("editRead: NOT_POSSIBLE before the fault before FULL");
        refused(NOT_POSSIBLE, RefusedTest::fullText, x -> x.editRead());
        refused(-102, x -> {
            longestEdit(x);
            x.type(',');
        }, x -> x.editRead());
    }

    /** One value has room, two have not. */
    private static void almostLongestEdit(TailVectors x) {
        longestEdit(x);
        x.editPop();
        x.type(',');
        x.type('8');
    }

    private void finish() {
        check.topic("finish: NOT_POSSIBLE if there is no edit");
        refused(NOT_POSSIBLE, RefusedTest::plain, x -> x.finish());
        check.topic("finish: FULL if there have been 24");
        refused(FULL, RefusedTest::noRoomWithEdit, x -> x.finish());
        check.topic("finish: NOT_POSSIBLE before FULL");
        refused(NOT_POSSIBLE, RefusedTest::noRoom, x -> x.finish());
    }

    private void abandon() {
        check.topic("abandon: NOT_POSSIBLE if there is no edit");
        refused(NOT_POSSIBLE, RefusedTest::plain, x -> x.abandon());
        refused(NOT_POSSIBLE, RefusedTest::noRoom, x -> x.abandon());
    }

    // ---- texts and history

    private void texts() {
        check.topic("type: FULL if it has 60 characters");
        refused(FULL, RefusedTest::fullText, x -> x.type('1'));
        refused(FULL, RefusedTest::fullText, x -> x.type((char) 0xffff));
    }

    private void history() {
        check.topic("undo: NONE if the history is empty");
        refused(NONE, RefusedTest::fresh, x -> x.undo());
        refused(NONE, x -> {
            plainWithEdit(x);
            Make.emptyHistory(x);
        }, x -> x.undo());
        check.topic("restore: NONE if there is no snapshot");
        refused(NONE, RefusedTest::fresh, x -> x.restore());
        refused(NONE, x -> {
            x.push(0, 1);
            x.drop(0);
            x.begin(1);
            x.editPush(3);
        }, x -> x.restore());
    }

    // ---- what is told

    private void getAndBlock() {
        check.topic("get: UNKNOWN");
        refused(UNKNOWN, RefusedTest::plain, x -> x.get(3, 0));
        refused(UNKNOWN, RefusedTest::plain, x -> x.get(1, 21));
        refused(UNKNOWN, RefusedTest::plain, x -> x.get(1, -1));
        refused(UNKNOWN, RefusedTest::plain, x -> x.get(2, 4));
        refused(UNKNOWN, RefusedTest::plain, x -> x.get(2, -1));
        refused(UNKNOWN, RefusedTest::plain, x -> x.get(4, 0));
        refused(UNKNOWN, RefusedTest::plain, x -> x.get(2, GREATEST));
        refused(UNKNOWN, RefusedTest::plain, x -> x.get(2, LEAST));
        check.topic("block: UNKNOWN (vector)");
        refused(UNKNOWN, RefusedTest::plain, x -> x.block(3, 0, 0));
        check.topic("block: BAD_VALUE if level or place is negative");
        refused(BAD_VALUE, RefusedTest::plain, x -> x.block(1, -1, 0));
        refused(BAD_VALUE, RefusedTest::plain, x -> x.block(1, 0, -1));
        refused(BAD_VALUE, RefusedTest::plain, x -> x.block(1, LEAST, 0));
        refused(BAD_VALUE, RefusedTest::plain, x -> x.block(1, 0, LEAST));
        check.topic("block: NONE if there is no such block");
        refused(NONE, RefusedTest::plain, x -> x.block(0, 0, 0));
        refused(NONE, RefusedTest::plain, x -> x.block(1, 0, 5));
        refused(NONE, RefusedTest::plain, x -> x.block(1, 1, 2));
        refused(NONE, RefusedTest::plain, x -> x.block(1, 2, 1));
        refused(NONE, RefusedTest::plain, x -> x.block(1, 3, 0));
        refused(NONE, RefusedTest::plain, x -> x.block(1, GREATEST, 0));
        refused(NONE, RefusedTest::plain, x -> x.block(1, 0, GREATEST));
        refused(NONE, RefusedTest::longest, x -> x.block(1, 0, 74));
        refused(NONE, RefusedTest::longest, x -> x.block(1, 1, 19));
        refused(NONE, RefusedTest::longest, x -> x.block(1, 2, 5));
        refused(NONE, RefusedTest::longest, x -> x.block(1, 3, 2));
        refused(NONE, RefusedTest::longest, x -> x.block(1, 4, 1));
        refused(NONE, RefusedTest::longest, x -> x.block(1, 5, 0));
        for (int level : new int[] {16, 17, 31, 32, 33, 64, 1 << 30}) {
            due("level " + level, object(RefusedTest::longest).block(1, level, 0), NONE);
        }
        check.topic("block: UNKNOWN before BAD_VALUE before NONE");
        refused(UNKNOWN, RefusedTest::plain, x -> x.block(3, -1, 0));
        refused(UNKNOWN, RefusedTest::plain, x -> x.block(3, 0, -1));
        refused(UNKNOWN, RefusedTest::plain, x -> x.block(3, 9, 9));
        refused(BAD_VALUE, RefusedTest::plain, x -> x.block(1, 9, -1));
        refused(BAD_VALUE, RefusedTest::plain, x -> x.block(1, -1, 99));
        refused(BAD_VALUE, RefusedTest::plain, x -> x.block(0, -1, -1));
    }

    private void sharedAndDiffer() {
        check.topic("shared: UNKNOWN (vector or other)");
        refused(UNKNOWN, RefusedTest::plain, x -> x.shared(3, 1));
        refused(UNKNOWN, RefusedTest::plain, x -> x.shared(1, 3));
        refused(UNKNOWN, RefusedTest::plain, x -> x.shared(1, 5));
        check.topic("differ: UNKNOWN (vector or other)");
        refused(UNKNOWN, RefusedTest::plain, x -> x.differ(3, 1));
        refused(UNKNOWN, RefusedTest::plain, x -> x.differ(1, 3));
        refused(UNKNOWN, RefusedTest::plain, x -> x.differ(0, 5));
        check.topic("differ: NONE if all values are the same, and there are as many");
        refused(NONE, RefusedTest::plain, x -> x.differ(1, 1));
        refused(NONE, RefusedTest::plain, x -> x.differ(0, 4));
    }

    private void findAndWouldMake() {
        check.topic("find: UNKNOWN");
        refused(UNKNOWN, RefusedTest::plain, x -> x.find(3, 0, 0));
        check.topic("find: BAD_VALUE (from)");
        refused(BAD_VALUE, RefusedTest::plain, x -> x.find(1, 0, -1));
        refused(BAD_VALUE, RefusedTest::plain, x -> x.find(1, 0, LEAST));
        check.topic("find: NONE if there is none");
        refused(NONE, RefusedTest::plain, x -> x.find(1, 77, 0));
        refused(NONE, RefusedTest::plain, x -> x.find(1, 0, 21));
        refused(NONE, RefusedTest::plain, x -> x.find(2, 3, GREATEST));
        refused(NONE, RefusedTest::plain, x -> x.find(1, -1, 0));
        refused(NONE, RefusedTest::plain, x -> x.find(1, NONE, 0));
        refused(NONE, RefusedTest::plain, x -> x.find(1, 1000, 0));
        refused(NONE, RefusedTest::plain, x -> x.find(1, GREATEST, 0));
        refused(NONE, RefusedTest::plain, x -> x.find(0, 0, 0));
        check.topic("find: UNKNOWN before BAD_VALUE before NONE");
        refused(UNKNOWN, RefusedTest::plain, x -> x.find(3, 0, -1));
        refused(BAD_VALUE, RefusedTest::plain, x -> x.find(1, 77, -1));
        refused(BAD_VALUE, RefusedTest::plain, x -> x.find(0, 0, -1));
        check.topic("wouldMake: UNKNOWN");
        refused(UNKNOWN, RefusedTest::plain, x -> x.wouldMake(3, 0));
        check.topic("wouldMake: BAD_VALUE");
        refused(BAD_VALUE, RefusedTest::plain, x -> x.wouldMake(1, -1));
        refused(BAD_VALUE, RefusedTest::plain, x -> x.wouldMake(1, 3));
        check.topic("wouldMake: NOT_POSSIBLE if it is a window, is empty, or has 300 values");
        refused(NOT_POSSIBLE, RefusedTest::plain, x -> x.wouldMake(2, 0));
        refused(NOT_POSSIBLE, RefusedTest::plain, x -> x.wouldMake(2, 1));
        refused(NOT_POSSIBLE, RefusedTest::plain, x -> x.wouldMake(2, 2));
        refused(NOT_POSSIBLE, RefusedTest::plain, x -> x.wouldMake(4, 0));
        refused(NOT_POSSIBLE, RefusedTest::plain, x -> x.wouldMake(0, 1));
        refused(NOT_POSSIBLE, RefusedTest::plain, x -> x.wouldMake(0, 2));
        refused(NOT_POSSIBLE, RefusedTest::longest, x -> x.wouldMake(1, 0));
        check.topic("wouldMake: UNKNOWN before BAD_VALUE before NOT_POSSIBLE");
        refused(UNKNOWN, RefusedTest::plain, x -> x.wouldMake(3, 3));
        refused(BAD_VALUE, RefusedTest::plain, x -> x.wouldMake(2, 3));
        refused(BAD_VALUE, RefusedTest::plain, x -> x.wouldMake(0, -1));
        refused(BAD_VALUE, RefusedTest::longest, x -> x.wouldMake(1, -1));
    }

    private void what() {
        int[] outside = {-1, LEAST, GREATEST};
        for (int what : outside) {
            check.topic("what: " + what);
            refused(BAD_VALUE, RefusedTest::plain, x -> x.vector(1, what));
            refused(BAD_VALUE, RefusedTest::plainWithEdit, x -> x.edit(what));
            refused(BAD_VALUE, RefusedTest::plain, x -> x.count(what));
        }
        check.topic("vector: UNKNOWN before BAD_VALUE before NONE");
        refused(BAD_VALUE, RefusedTest::plain, x -> x.vector(1, 10));
        refused(UNKNOWN, RefusedTest::plain, x -> x.vector(3, 0));
        refused(UNKNOWN, RefusedTest::plain, x -> x.vector(3, 10));
        refused(BAD_VALUE, RefusedTest::plain, x -> x.vector(0, 10));
        check.topic("vector: NONE");
        refused(NONE, RefusedTest::plain, x -> x.vector(0, 6));
        refused(NONE, RefusedTest::plain, x -> x.vector(0, 9));
        refused(NONE, RefusedTest::plain, x -> x.vector(4, 9));
        check.topic("edit: BAD_VALUE before NOT_POSSIBLE");
        refused(BAD_VALUE, RefusedTest::plainWithEdit, x -> x.edit(5));
        refused(BAD_VALUE, RefusedTest::plain, x -> x.edit(5));
        refused(BAD_VALUE, RefusedTest::plain, x -> x.edit(-1));
        check.topic("edit: NOT_POSSIBLE if there is no edit");
        for (int what = 0; what <= 4; what++) {
            int one = what;
            refused(NOT_POSSIBLE, RefusedTest::plain, x -> x.edit(one));
        }
        check.topic("edit: NONE if there is no root");
        refused(NONE, RefusedTest::emptyEdit, x -> x.edit(4));
        check.topic("count: BAD_VALUE");
        refused(BAD_VALUE, RefusedTest::plain, x -> x.count(9));
    }

    // ---- acts

    private void acts() {
        check.topic("Each act records the state that was before it: push");
        act(5, RefusedTest::plain, x -> x.push(1, 5));
        act(1, RefusedTest::fresh, x -> x.push(0, 5));
        act(5, RefusedTest::plain, x -> x.push(2, 5));
        check.topic("Each act records the state that was before it: set");
        act(5, RefusedTest::plain, x -> x.set(1, 0, 5));
        act(5, RefusedTest::plain, x -> x.set(1, 0, 0));
        check.topic("Each act records the state that was before it: pop");
        act(5, RefusedTest::plain, x -> x.pop(1));
        act(5, RefusedTest::plain, x -> x.pop(2));
        check.topic("Each act records the state that was before it: window");
        act(5, RefusedTest::plain, x -> x.window(1, 0, 21));
        act(1, RefusedTest::fresh, x -> x.window(0, 0, 0));
        check.topic("Each act records the state that was before it: drop");
        act(3, RefusedTest::plain, x -> x.drop(1));
        act(0, RefusedTest::fresh, x -> x.drop(0));
        check.topic("Each act records the state that was before it: begin");
        act(21, RefusedTest::plain, x -> x.begin(1));
        act(0, RefusedTest::fresh, x -> x.begin(0));
        check.topic("Each act records the state that was before it: editPush");
        act(0, RefusedTest::plainWithEdit, x -> x.editPush(1));
        act(0, RefusedTest::emptyEdit, x -> x.editPush(1));
        check.topic("Each act records the state that was before it: editSet");
        act(0, RefusedTest::plainWithEdit, x -> x.editSet(0, 5));
        act(2, RefusedTest::plainWithEdit, x -> x.editSet(16, 5));
        check.topic("Each act records the state that was before it: editPop");
        act(0, RefusedTest::plainWithEdit, x -> x.editPop());
        check.topic("Each act records the state that was before it: editRead");
        act(0, RefusedTest::plainWithEdit, x -> x.editRead());
        act(3, x -> text(x, "1,2,3,4,5,6,7,8"), x -> x.editRead());
        check.topic("Each act records the state that was before it: finish");
        act(5, RefusedTest::plainWithEdit, x -> x.finish());
        act(5, RefusedTest::emptyEdit, x -> x.finish());
        check.topic("Each act records the state that was before it: abandon");
        act(21, RefusedTest::plainWithEdit, x -> x.abandon());
        act(0, RefusedTest::emptyEdit, x -> x.abandon());
        check.topic("Each act records the state that was before it: restore");
        act(8, RefusedTest::plain, x -> x.restore());
        act(8, RefusedTest::plainWithEdit, x -> x.restore());
    }

    private void noActs() {
        check.topic("a method that is described as an act: type, clearText, keep, undo are none");
        TailVectors x = object(RefusedTest::plain);
        due("states", x.count(7), 4);
        x.undo();
        due("type", x.type('1'), 2);
        due("states", x.count(7), 3);
        due("clearText", x.clearText(), 2);
        due("states", x.count(7), 3);
        due("keep", x.keep(), 11);
        due("states", x.count(7), 3);
        due("undo", x.undo(), 2);
        due("states", x.count(7), 2);
    }

    private void whatIsTold() {
        check.topic("what is told changes nothing");
        refused(5, RefusedTest::plain, x -> x.get(1, 5));
        refused(21, RefusedTest::plain, x -> x.vector(1, 0));
        refused(7, RefusedTest::plain, x -> x.block(1, 2, 0));
        refused(8, RefusedTest::plain, x -> x.shared(1, 2));
        refused(0, RefusedTest::plain, x -> x.differ(1, 2));
        refused(6, RefusedTest::plain, x -> x.find(1, 6, 0));
        refused(0, RefusedTest::plain, x -> x.wouldMake(1, 0));
        refused(0, RefusedTest::plain, x -> x.wouldMake(1, 1));
        refused(3, RefusedTest::plain, x -> x.wouldMake(1, 2));
        refused(21, RefusedTest::plainWithEdit, x -> x.edit(0));
        refused(5, RefusedTest::plainWithEdit, x -> x.edit(3));
        refused(14, RefusedTest::plainWithEdit, x -> x.count(2));
        refused(3, RefusedTest::plainWithEdit, x -> x.wouldMake(1, 2));
    }
}
