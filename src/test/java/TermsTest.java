/** The sentences under "Vectors", "Windows", "The edit", "Texts" and "History", one test for each. */
public final class TermsTest {
    private static final int UNKNOWN = -1;
    private static final int FULL = -3;
    private static final int NOT_POSSIBLE = -4;
    private static final int NONE = -5;

    private final Check check = new Check();

    public static void main(String[] args) {
        TermsTest test = new TermsTest();
        test.vectors();
        test.windows();
        test.theEdit();
        test.texts();
        test.history();
        test.check.end();
    }

    private void vectors() {
        objectsDoNotKnowEachOther();
        fiveHundredTwelveCalls();
        twentyFourVectorsByPush();
        twentyFourVectorsBySet();
        twentyFourVectorsByPop();
        twentyFourVectorsByWindow();
        twentyFourVectorsByFinish();
        droppedOnesCountAmongThose();
        undoneOnesDoNot();
        noVectorAnyMore();
        threeHundredValues();
        valuesFromZeroToGreatest();
        atFirstThereIsVectorZero();
    }

    private void windows() {
        aWindowAlsoIfItShowsAll();
        settingSetsThePlaceOfTheRow();
        settingTheEdgesOfAWindow();
        pushingBeforeAValueSetsIt();
        pushingBeforeTheLastValueSetsIt();
        pushingAtTheEndPushes();
        pushingOnAnEmptyWindow();
        pushingOnAWindowOfAnEmptyRow();
        poppingShowsOneLess();
        noWindowShowsTheWhole();
    }

    private void theEdit() {
        oneEditAtATime();
        beginsWithNoWindow();
        vectorMayBeDropped();
        ownLeafIsSetInPlace();
        ownPathIsPushedInPlace();
        ownPathIsPoppedInPlace();
        ownBlocksComeAboveOthers();
        blocksOfOthersAreNotItsOwn();
        vectorsMadeMeanwhileNeverChange();
        finishedNothingIsItsOwn();
        aLeafThatWentIsMadeAgain();
        beginningVectorStays();
        abandonedItLeavesNoVector();
    }

    private void texts() {
        sixtyCharacters();
        emptyAtFirst();
        oneOrMoreValues();
        commaBetweenTwo();
        oneToThreeDigits();
        noZeroInFront();
        firstCharacterNotAllowed();
        endsTooEarly();
        otherCharacters();
    }

    private void history() {
        fourStates();
        oldestIsDropped();
        undoRemovesTheLatest();
        oneSnapshot();
        notPartOfAState();
        madeIsPartOfAState();
        theEditIsPartOfAState();
        ownershipIsPartOfAState();
        inPlaceDoesNotChangeHistory();
        inPlaceDoesNotChangeTheSnapshot();
        restoredIsChangedButTheSnapshotStays();
    }

    private void due(String call, long got, long want) {
        check.due(call, got, want);
    }

    private void same(String what, String got, String want) {
        check.that(what + ": " + got + "\n, due is " + want, got.equals(want));
    }

    // ---- vectors

    private void objectsDoNotKnowEachOther() {
        check.topic("A new object");
        TailVectors x = Make.filled(5);
        TailVectors y = new TailVectors();
        due("vectors of the second", y.count(0), 1);
        due("blocks of the second", y.count(2), 0);
        y.type('1');
        y.push(0, 3);
        due("text of the first", x.count(8), 0);
        due("vectors of the first", x.count(0), 2);
        due("value of the first", x.get(1, 0), 0);
    }

    private void fiveHundredTwelveCalls() {
        check.topic("An object is used for at most 512 calls");
        TailVectors x = new TailVectors();
        x.begin(0);
        for (int call = 2; call < 512; call++) {
            due("call " + call, x.editSet(0, 1), UNKNOWN);
        }
        due("call 512", x.edit(0), 0);
    }

    private void twentyFourVectorsByPush() {
        check.topic("at most 24 vectors ever, numbered from 0: push");
        TailVectors x = Make.filled(5);
        Make.vectorsUpTo(x, 23);
        due("the last number", x.push(1, 1), 23);
        due("a vector more", x.push(1, 1), FULL);
        due("ever", x.count(0), 24);
    }

    private void twentyFourVectorsBySet() {
        check.topic("at most 24 vectors ever, numbered from 0: set");
        TailVectors x = Make.filled(5);
        Make.vectorsUpTo(x, 23);
        due("the last number", x.set(1, 0, 1), 23);
        due("a vector more", x.set(1, 0, 1), FULL);
        due("ever", x.count(0), 24);
    }

    private void twentyFourVectorsByPop() {
        check.topic("at most 24 vectors ever, numbered from 0: pop");
        TailVectors x = Make.filled(5);
        Make.vectorsUpTo(x, 23);
        due("the last number", x.pop(1), 23);
        due("a vector more", x.pop(1), FULL);
        due("ever", x.count(0), 24);
    }

    private void twentyFourVectorsByWindow() {
        check.topic("at most 24 vectors ever, numbered from 0: window");
        TailVectors x = Make.filled(5);
        Make.vectorsUpTo(x, 23);
        due("the last number", x.window(1, 1, 2), 23);
        due("a vector more", x.window(1, 1, 2), FULL);
        due("ever", x.count(0), 24);
        due("the last one", x.get(23, 1), 2);
    }

    private void twentyFourVectorsByFinish() {
        check.topic("at most 24 vectors ever, numbered from 0: finish");
        TailVectors x = Make.filled(5);
        Make.vectorsUpTo(x, 23);
        x.begin(1);
        due("the last number", x.finish(), 23);
        due("an edit can begin", x.begin(23), 5);
        due("and change", x.editPush(1), 0);
        due("a vector more", x.finish(), FULL);
        due("the edit stays", x.edit(0), 6);
        due("ever", x.count(0), 24);
        due("it can be abandoned", x.abandon(), 6);
    }

    private void droppedOnesCountAmongThose() {
        check.topic("at most 24 vectors ever: dropped ones");
        TailVectors x = Make.filled(5);
        Make.vectorsUpTo(x, 24);
        due("drop", x.drop(23), 23);
        due("drop", x.drop(5), 22);
        due("no room", x.push(1, 1), FULL);
        due("no room", x.window(1, 0, 0), FULL);
        TailVectors y = Make.filled(5);
        y.drop(1);
        due("its number does not come again", y.push(0, 1), 2);
    }

    private void undoneOnesDoNot() {
        check.topic("at most 24 vectors ever: undone ones");
        TailVectors x = Make.filled(5);
        Make.vectorsUpTo(x, 24);
        due("no room", x.push(1, 1), FULL);
        due("undo", x.undo(), 3);
        due("room", x.push(1, 1), 23);
        due("its value", x.get(23, 5), 1);
    }

    private void noVectorAnyMore() {
        check.topic("one can be dropped (then there is no such vector any more)");
        int[] wrong = {1, -1, 3, 23, 24, 25, 1 << 20, Integer.MIN_VALUE, Integer.MAX_VALUE};
        for (int v : wrong) {
            TailVectors x = Make.filled(5);
            x.window(1, 0, 3);
            x.drop(1);
            due("push(" + v + ")", x.push(v, 0), UNKNOWN);
            due("set(" + v + ")", x.set(v, 0, 0), UNKNOWN);
            due("pop(" + v + ")", x.pop(v), UNKNOWN);
            due("window(" + v + ")", x.window(v, 0, 0), UNKNOWN);
            due("drop(" + v + ")", x.drop(v), UNKNOWN);
            due("begin(" + v + ")", x.begin(v), UNKNOWN);
            due("get(" + v + ")", x.get(v, 0), UNKNOWN);
            for (int what = 0; what <= 9; what++) {
                due("vector(" + v + ", " + what + ")", x.vector(v, what), UNKNOWN);
            }
            due("block(" + v + ")", x.block(v, 0, 0), UNKNOWN);
            due("shared(" + v + ", 0)", x.shared(v, 0), UNKNOWN);
            due("shared(0, " + v + ")", x.shared(0, v), UNKNOWN);
            due("shared with itself", x.shared(v, v), UNKNOWN);
            due("differ(" + v + ", 0)", x.differ(v, 0), UNKNOWN);
            due("differ(0, " + v + ")", x.differ(0, v), UNKNOWN);
            due("differ from itself", x.differ(v, v), UNKNOWN);
            due("find(" + v + ")", x.find(v, 0, 0), UNKNOWN);
            for (int what = 0; what <= 2; what++) {
                due("wouldMake(" + v + ", " + what + ")", x.wouldMake(v, what), UNKNOWN);
            }
            due("the window stays", x.vector(2, 0), 3);
            due("and its values", x.get(2, 2), 2);
            due("and its blocks", x.vector(2, 5), 2);
        }
    }

    private void threeHundredValues() {
        check.topic("a row of at most 300 values");
        TailVectors x = Make.filled(299);
        due("push of the last one", x.push(1, 7), 2);
        due("one more", x.push(2, 7), FULL);
        due("setting goes on", x.set(2, 299, 8), 3);
        due("popping goes on", x.pop(3), 4);
        due("and pushing then", x.push(4, 9), 5);
        due("begin", x.begin(5), 300);
        due("one more by the edit", x.editPush(1), FULL);
        due("setting by the edit", x.editSet(299, 1), 0);
        due("popping by the edit", x.editPop(), 0);
        due("pushing by the edit", x.editPush(1), 0);
        Make.typeAll(x, "1");
        due("reading one more", x.editRead(), FULL);
        x.editPop();
        due("reading the last one", x.editRead(), 0);
        due("length", x.edit(0), 300);
    }

    private void valuesFromZeroToGreatest() {
        check.topic("values (0 to 999)");
        TailVectors x = new TailVectors();
        due("push", x.push(0, 0), 1);
        due("push", x.push(1, 999), 2);
        due("set", x.set(2, 0, 999), 3);
        due("set", x.set(3, 1, 0), 4);
        x.begin(4);
        due("editPush", x.editPush(0), 0);
        due("editPush", x.editPush(999), 0);
        due("editSet", x.editSet(0, 0), 0);
        due("editSet", x.editSet(1, 999), 0);
        Make.typeAll(x, "0,999");
        due("editRead", x.editRead(), 2);
        due("finish", x.finish(), 5);
        int[] values = {0, 999, 0, 999, 0, 999};
        for (int place = 0; place < values.length; place++) {
            due("value " + place, x.get(5, place), values[place]);
        }
        due("sum", x.vector(5, 8), 3 * 999);
        due("values of the vector before", x.get(4, 0), 999);
        due("values of the vector before", x.get(4, 1), 0);
    }

    private void atFirstThereIsVectorZero() {
        check.topic("At first there is the vector 0, which is empty");
        TailVectors x = new TailVectors();
        due("length", x.vector(0, 0), 0);
        due("no window", x.vector(0, 1), 0);
        due("length of its row", x.vector(0, 3), 0);
        due("no value", x.get(0, 0), UNKNOWN);
        due("no vector 1", x.vector(1, 0), UNKNOWN);
        due("the first number", x.push(0, 1), 1);
    }

    // ---- windows

    private void aWindowAlsoIfItShowsAll() {
        check.topic("A vector can be a window (also if it shows all)");
        TailVectors x = Make.filled(9);
        x.window(1, 0, 9);
        due("a window", x.vector(2, 1), 1);
        due("shows all", x.differ(1, 2), NONE);
        due("no edit", x.begin(2), NOT_POSSIBLE);
        due("no wouldMake", x.wouldMake(2, 0), NOT_POSSIBLE);
        x.pop(2);
        due("of the same row", x.vector(3, 3), 9);
        x.push(2, 5);
        due("pushed is a window", x.vector(4, 1), 1);
        due("row of ten", x.vector(4, 3), 10);
        x.set(2, 0, 5);
        due("set is a window", x.vector(5, 1), 1);
        x.window(0, 0, 0);
        due("of an empty one", x.vector(6, 1), 1);
    }

    private void settingSetsThePlaceOfTheRow() {
        check.topic("Setting a value of a window makes a window of the row in which that place is set");
        TailVectors x = Make.filled(21);
        x.window(1, 6, 4);
        due("set", x.set(2, 1, 500), 3);
        due("a window", x.vector(3, 1), 1);
        due("from the same place", x.vector(3, 2), 6);
        due("of as many", x.vector(3, 0), 4);
        due("value", x.get(3, 1), 500);
        due("a leaf and two above it", x.count(2), 11);
        due("the leaf of the place", x.block(3, 0, 1), 8);
        due("the row before stays", x.get(2, 1), 7);
        x.window(1, 20, 1);
        due("in the tail of the row", x.set(4, 0, 500), 5);
        due("nothing is made", x.count(2), 11);
    }

    private void settingTheEdgesOfAWindow() {
        check.topic("set: a place in it, from 0");
        TailVectors x = Make.filled(21);
        x.window(1, 6, 4);
        due("its first place", x.set(2, 0, 500), 3);
        due("its last place", x.set(2, 3, 501), 4);
        due("behind it, but in the row", x.set(2, 4, 502), UNKNOWN);
        due("before it, but in the row", x.set(2, -1, 502), UNKNOWN);
        due("far before it", x.set(2, -6, 502), UNKNOWN);
        due("a wrap-around", x.set(2, Integer.MAX_VALUE, 502), UNKNOWN);
        due("a wrap-around", x.set(2, Integer.MIN_VALUE, 502), UNKNOWN);
        x.window(1, 6, 0);
        due("of an empty window", x.set(5, 0, 502), UNKNOWN);
        due("first value", x.get(3, 0), 500);
        due("last value", x.get(4, 3), 501);
    }

    private void pushingBeforeAValueSetsIt() {
        check.topic("if the row has a value behind the last one that the window shows, this is set");
        TailVectors x = Make.filled(21);
        x.window(1, 0, 3);
        due("push", x.push(2, 500), 3);
        due("shows one more", x.vector(3, 0), 4);
        due("as long a row", x.vector(3, 3), 21);
        due("value", x.get(3, 3), 500);
        due("a leaf and two above it", x.count(2), 11);
        due("the first leaf", x.block(3, 0, 0), 8);
        due("the row before stays", x.get(1, 3), 3);
        x.push(3, 501);
        due("the next leaf", x.block(4, 0, 1), 11);
        due("first value stays", x.get(4, 0), 0);
    }

    private void pushingBeforeTheLastValueSetsIt() {
        check.topic("a value behind the last one: the last of the row");
        TailVectors x = Make.filled(8);
        x.window(1, 2, 5);
        due("push", x.push(2, 500), 3);
        due("as long a row", x.vector(3, 3), 8);
        due("nothing is made", x.count(2), 2);
        due("push again", x.push(3, 501), 4);
        due("a longer row", x.vector(4, 3), 9);
        due("a leaf and a root", x.count(2), 4);
        due("shows seven", x.vector(4, 0), 7);
        due("the last one", x.get(4, 6), 501);
        due("the one before", x.get(4, 5), 500);
    }

    private void pushingAtTheEndPushes() {
        check.topic("otherwise it is pushed behind the row");
        TailVectors x = Make.filled(8);
        x.window(1, 3, 5);
        due("push", x.push(2, 500), 3);
        due("a longer row", x.vector(3, 3), 9);
        due("a leaf is made of the tail", x.vector(3, 4), 2);
        due("a leaf and a root are made", x.count(2), 4);
        due("shows one more", x.vector(3, 0), 6);
        due("from the same place", x.vector(3, 2), 3);
        TailVectors y = Make.filled(300);
        y.window(1, 299, 1);
        due("behind a full row", y.push(2, 500), FULL);
        y.window(1, 299, 0);
        due("the last place of a full row", y.push(3, 500), 4);
        due("value", y.get(4, 0), 500);
    }

    private void pushingOnAnEmptyWindow() {
        check.topic("push on a window that shows nothing");
        TailVectors x = Make.filled(9);
        x.window(1, 5, 0);
        due("before a value", x.push(2, 500), 3);
        due("shows one", x.vector(3, 0), 1);
        due("value", x.get(3, 0), 500);
        due("as long a row", x.vector(3, 3), 9);
        due("first", x.vector(3, 2), 5);
        x.window(1, 9, 0);
        due("behind the row", x.push(4, 501), 5);
        due("a longer row", x.vector(5, 3), 10);
        due("first", x.vector(5, 2), 9);
        due("shows one", x.vector(5, 0), 1);
    }

    private void pushingOnAWindowOfAnEmptyRow() {
        check.topic("push on a window of an empty row");
        TailVectors x = new TailVectors();
        x.window(0, 0, 0);
        due("push", x.push(1, 500), 2);
        due("a window", x.vector(2, 1), 1);
        due("value", x.get(2, 0), 500);
        due("row of one", x.vector(2, 3), 1);
        due("tail", x.vector(2, 7), 1);
    }

    private void poppingShowsOneLess() {
        check.topic("Popping makes a window of the same row that shows one less");
        TailVectors x = Make.filled(9);
        x.window(1, 3, 6);
        due("pop", x.pop(2), 3);
        due("shows one less", x.vector(3, 0), 5);
        due("the same row", x.vector(3, 3), 9);
        due("nothing is made", x.count(2), 3);
        due("all is shared", x.shared(1, 3), 3);
        due("first", x.vector(3, 2), 3);
        due("push sets what was shown", x.push(3, 500), 4);
        due("row", x.vector(4, 3), 9);
        x.window(1, 3, 1);
        due("the last one", x.pop(5), 6);
        due("none left", x.vector(6, 0), 0);
        due("still a window", x.vector(6, 1), 1);
        due("pop of none, though the row has values", x.pop(6), NOT_POSSIBLE);
    }

    private void noWindowShowsTheWhole() {
        check.topic("A vector that is not a window shows the whole of its row");
        int[] lengths = {0, 1, 4, 5, 300};
        for (int length : lengths) {
            TailVectors x = Make.filled(length);
            due("shown", x.vector(1, 0), length);
            due("in the row", x.vector(1, 3), length);
            due("first", x.vector(1, 2), 0);
            due("no window", x.vector(1, 1), 0);
        }
    }

    // ---- the edit

    private void oneEditAtATime() {
        check.topic("There can be one edit at a time");
        TailVectors x = Make.filled(5);
        due("none at first", x.count(5), 0);
        due("begin", x.begin(1), 5);
        due("one", x.count(5), 1);
        due("another", x.begin(0), NOT_POSSIBLE);
        due("the first one stays", x.edit(0), 5);
        due("finish", x.finish(), 2);
        due("none", x.count(5), 0);
        due("another then", x.begin(0), 0);
        due("abandon", x.abandon(), 0);
        due("and another", x.begin(2), 5);
    }

    private void beginsWithNoWindow() {
        check.topic("it begins with a row of a vector that is not a window");
        TailVectors x = Make.filled(5);
        x.window(1, 1, 2);
        x.push(2, 7);
        due("a window", x.begin(2), NOT_POSSIBLE);
        due("one made of a window", x.begin(3), NOT_POSSIBLE);
        due("no edit", x.count(5), 0);
        due("an empty vector", x.begin(0), 0);
    }

    private void vectorMayBeDropped() {
        check.topic("(which may be dropped then)");
        TailVectors x = Make.filled(21);
        x.begin(1);
        due("drop", x.drop(1), 1);
        due("its row stays", x.edit(0), 21);
        due("its blocks, too", x.edit(2), 8);
        due("nobody else has them", x.edit(3), 0);
        due("they are in use", x.count(3), 8);
        due("they are not its own", x.edit(1), 0);
        due("so they are made anew", x.editSet(0, 500), 3);
        due("finish", x.finish(), 2);
        due("value", x.get(2, 20), 0);
        due("blocks that nobody uses", x.count(4), 3);
    }

    private void ownLeafIsSetInPlace() {
        check.topic("where a block is to be made anew that is its own, it is changed in place: set");
        TailVectors x = Make.filled(21);
        x.begin(1);
        due("anew", x.editSet(5, 500), 3);
        due("in place", x.editSet(5, 501), 0);
        due("the same leaf", x.editSet(6, 502), 0);
        due("a leaf below blocks of its own", x.editSet(0, 503), 1);
        due("a leaf below the root of its own", x.editSet(16, 504), 2);
        due("its own", x.edit(1), 6);
        due("root", x.edit(4), 10);
        due("finish", x.finish(), 2);
        due("value", x.get(2, 5), 501);
        due("value", x.get(2, 6), 502);
        due("the row before stays", x.get(1, 5), 5);
    }

    private void ownPathIsPushedInPlace() {
        check.topic("where a block is to be made anew that is its own, it is changed in place: push");
        TailVectors x = Make.filled(24);
        x.begin(1);
        due("a leaf and its path", x.editPush(1), 3);
        due("in the tail", x.editPush(2), 0);
        x.editPush(3);
        x.editPush(4);
        due("a leaf alone", x.editPush(5), 1);
        due("its own", x.edit(1), 4);
        due("root", x.edit(4), 10);
        due("finish", x.finish(), 2);
        due("block of level 1", x.block(2, 1, 1), 9);
        due("leaf", x.block(2, 0, 6), 11);
        due("old leaf", x.block(2, 0, 4), x.block(1, 0, 4));
    }

    private void ownPathIsPoppedInPlace() {
        check.topic("where a block is to be made anew that is its own, it is changed in place: pop");
        TailVectors x = Make.filled(33);
        x.begin(1);
        due("a leaf goes", x.editPop(), 2);
        x.editPop();
        x.editPop();
        x.editPop();
        due("in place", x.editPop(), 0);
        due("its own", x.edit(1), 2);
        due("root", x.edit(4), 12);
        due("finish", x.finish(), 2);
        due("blocks", x.vector(2, 5), 9);
        due("old blocks", x.vector(1, 5), 11);
        due("made", x.count(2), 13);
    }

    private void ownBlocksComeAboveOthers() {
        check.topic("what is told here to be made is made: also by an edit");
        TailVectors x = new TailVectors();
        Make.fillEdit(x, 20);
        due("all its own", x.edit(1), 5);
        due("a root above its own root", x.editPush(1), 3);
        due("root", x.edit(4), 7);
        due("all its own", x.edit(1), 8);
        due("the root goes", x.editPop(), 0);
        due("its own", x.edit(1), 5);
        due("a root above it again", x.editPush(1), 3);
        due("with a new number", x.edit(4), 10);
        due("made", x.count(2), 11);
    }

    private void blocksOfOthersAreNotItsOwn() {
        check.topic("the blocks that were made by it are its own");
        TailVectors x = Make.filled(21);
        x.begin(1);
        x.set(1, 0, 500);
        due("made meanwhile", x.count(2), 11);
        due("nothing is its own", x.edit(1), 0);
        due("made anew", x.editSet(0, 501), 3);
        due("its own", x.edit(1), 3);
        x.set(1, 0, 502);
        due("made", x.count(2), 17);
        due("its own", x.edit(1), 3);
        due("in place", x.editSet(0, 503), 0);
        due("the other one stays", x.get(2, 0), 500);
        due("the other one stays", x.get(3, 0), 502);
        due("finish", x.finish(), 4);
        due("value", x.get(4, 0), 503);
        due("nothing of a path is shared", x.shared(2, 4), 5);
    }

    private void vectorsMadeMeanwhileNeverChange() {
        check.topic("Vectors that never change: also those that were made while there is an edit");
        TailVectors x = Make.filled(9);
        x.begin(1);
        due("set", x.set(1, 0, 500), 2);
        due("leaf and root", x.count(2), 5);
        due("set again", x.set(2, 0, 501), 3);
        due("leaf and root again", x.count(2), 7);
        due("pop", x.pop(3), 4);
        due("root again", x.count(2), 8);
        due("push", x.push(4, 1), 5);
        due("leaf and root again", x.count(2), 10);
        due("first vector", x.get(1, 0), 0);
        due("second vector", x.get(2, 0), 500);
        due("third vector", x.get(3, 0), 501);
        due("root of the third", x.block(3, 1, 0), 6);
        due("root of the fourth", x.block(4, 1, 0), 7);
    }

    private void finishedNothingIsItsOwn() {
        check.topic("When it is finished, its row becomes a new vector; nothing is its own any more");
        TailVectors x = Make.filled(21);
        x.begin(1);
        x.editSet(0, 500);
        due("finish", x.finish(), 2);
        due("begin with it", x.begin(2), 21);
        due("nothing is its own", x.edit(1), 0);
        due("made anew", x.editSet(0, 501), 3);
        due("finish", x.finish(), 3);
        due("the first one stays", x.get(2, 0), 500);
        due("the second one", x.get(3, 0), 501);
        due("no window", x.vector(3, 1), 0);
    }

    private void aLeafThatWentIsMadeAgain() {
        check.topic("Otherwise a leaf is made of the tail: also if one of its own went");
        TailVectors x = new TailVectors();
        Make.fillEdit(x, 9);
        due("made", x.count(2), 3);
        due("pop, the root in place", x.editPop(), 0);
        due("push, a leaf", x.editPush(1), 1);
        due("made", x.count(2), 4);
        due("finish", x.finish(), 1);
        due("its number", x.block(1, 0, 1), 3);
        due("the root's number", x.block(1, 1, 0), 1);
        due("one is unused", x.count(4), 1);
    }

    private void beginningVectorStays() {
        check.topic("Vectors that never change");
        TailVectors x = Make.filled(21);
        x.window(1, 0, 21);
        x.begin(1);
        for (int place = 0; place < 21; place++) {
            x.editSet(place, 500 + place);
            x.editSet(place, 600 + place);
        }
        x.editPush(1);
        x.editPop();
        x.editPop();
        due("the window is the same", x.differ(1, 2), NONE);
        for (int place = 0; place < 21; place++) {
            due("value " + place, x.get(1, place), place % 10);
        }
        due("leaves", x.vector(1, 4), 5);
        due("blocks", x.vector(1, 5), 8);
    }

    private void abandonedItLeavesNoVector() {
        check.topic("It can be abandoned");
        TailVectors x = Make.filled(21);
        x.begin(1);
        x.editSet(0, 500);
        x.editPush(7);
        due("abandon", x.abandon(), 22);
        due("no edit", x.count(5), 0);
        due("no vector more", x.count(0), 2);
        due("its blocks were made", x.count(2), 11);
        due("and nobody uses them", x.count(4), 3);
        due("begin again", x.begin(1), 21);
        due("nothing is its own", x.edit(1), 0);
        due("made anew", x.editSet(0, 500), 3);
    }

    // ---- texts

    private int read(String text) {
        TailVectors x = new TailVectors();
        x.begin(0);
        Make.typeAll(x, text);
        return x.editRead() < 0 ? x.editRead() : x.edit(0);
    }

    private void readDue(String text, int want) {
        due("'" + text + "'", read(text), want);
    }

    private void sixtyCharacters() {
        check.topic("There is a text of at most 60 characters");
        TailVectors x = new TailVectors();
        for (int i = 1; i <= 60; i++) {
            due("character " + i, x.type(i % 2 == 1 ? '7' : ','), i);
        }
        due("one more", x.type('1'), FULL);
        due("length", x.count(8), 60);
        x.begin(0);
        due("ends too early", x.editRead(), -160);
        due("clearText", x.clearText(), 60);
        due("room again", x.type('1'), 1);
        readDue("100,200,300,400,500,600,700,800,900,100,200,300,400,500,6000", -159);
        readDue("100,200,300,400,500,600,700,800,900,100,200,300,400,500,60,8", 16);
    }

    private void emptyAtFirst() {
        check.topic("There is a text, empty at first");
        TailVectors x = new TailVectors();
        due("length", x.count(8), 0);
        x.begin(0);
        due("editRead", x.editRead(), -100);
        due("clearText", x.clearText(), 0);
    }

    private void oneOrMoreValues() {
        check.topic("A row of values is one or more values");
        readDue("", -100);
        readDue("4", 1);
        readDue("4,5", 2);
        readDue("1,2,3,4,5,6,7,8,9,0,1,2,3,4,5,6,7,8,9,0,1,2,3,4,5,6,7,8,9,0", 30);
    }

    private void commaBetweenTwo() {
        check.topic("with \",\" between two");
        readDue(",", -100);
        readDue(",1", -100);
        readDue("1,", -102);
        readDue("1,,2", -102);
        readDue("1,2,", -104);
        readDue("1 2", -101);
        readDue("1;2", -101);
        readDue("1.2", -101);
        readDue("1, 2", -102);
    }

    private void oneToThreeDigits() {
        check.topic("a value has one to three digits");
        readDue("9", 1);
        readDue("99", 1);
        readDue("999", 1);
        readDue("9999", -103);
        readDue("1000", -103);
        readDue("1,1000", -105);
        readDue("123,4567", -107);
        readDue("100,200", 2);
    }

    private void noZeroInFront() {
        check.topic("without a zero in front unless it is the single digit 0");
        readDue("0", 1);
        readDue("0,0", 2);
        readDue("00", -101);
        readDue("01", -101);
        readDue("007", -101);
        readDue("1,00", -103);
        readDue("10", 1);
        readDue("100", 1);
        readDue("10,0", 2);
        readDue("10,01", -104);
        readDue("0,10", 2);
    }

    private void firstCharacterNotAllowed() {
        check.topic("the index of the first character that is not allowed at its place");
        readDue("x", -100);
        readDue("1x", -101);
        readDue("12x", -102);
        readDue("123x", -103);
        readDue("0x", -101);
        readDue("1,x", -102);
        readDue("1x2y", -101);
        readDue("1,,", -102);
        readDue("00,", -101);
        readDue("-5", -100);
        readDue("+5", -100);
    }

    private void endsTooEarly() {
        check.topic("or the length of the text if it ends too early (the empty text does)");
        readDue("", -100);
        readDue("1,", -102);
        readDue("12,", -103);
        readDue("123,", -104);
        readDue("0,0,", -104);
    }

    private void otherCharacters() {
        check.topic("character: any character");
        char[] others = {0, 9, 10, 32, '+', '-', '.', '/', ':', 'a', 127, 128, 255, 256, 304, 0x660,
            0x661, 0xff11, 0xff0c, 0x8000 + '1', 0x100 + ',', 0xffff};
        for (char other : others) {
            TailVectors x = new TailVectors();
            x.begin(0);
            due("type", x.type('1'), 1);
            due("type " + (int) other, x.type(other), 2);
            due("fault", x.editRead(), -101);
            due("still in the text", x.count(8), 2);
        }
    }

    // ---- history

    private void fourStates() {
        check.topic("A history of at most 4 states is kept");
        TailVectors x = new TailVectors();
        int[] states = {1, 2, 3, 4, 4, 4, 4};
        for (int i = 0; i < states.length; i++) {
            x.push(i, i);
            due("states", x.count(7), states[i]);
        }
        due("undo", x.undo(), 3);
        due("undo", x.undo(), 2);
        due("undo", x.undo(), 1);
        due("undo", x.undo(), 0);
        due("no more", x.undo(), NONE);
        due("none", x.count(7), 0);
    }

    private void oldestIsDropped() {
        check.topic("when one more is recorded, the oldest one is dropped");
        for (int acts = 4; acts <= 6; acts++) {
            TailVectors x = new TailVectors();
            for (int i = 0; i < acts; i++) {
                x.push(i, i);
            }
            for (int i = 0; i < 4; i++) {
                due("undo", x.undo(), 3 - i);
                due("vectors ever", x.count(0), acts - i);
            }
            due("no more", x.undo(), NONE);
            due("vectors ever", x.count(0), acts - 3);
        }
    }

    private void undoRemovesTheLatest() {
        check.topic("undo() removes and restores the latest one");
        TailVectors x = new TailVectors();
        x.push(0, 1);
        x.push(0, 2);
        due("undo", x.undo(), 1);
        due("the latest act is undone", x.count(0), 2);
        x.push(1, 3);
        due("two states", x.count(7), 2);
        due("undo", x.undo(), 1);
        due("vectors", x.count(0), 2);
        due("undo", x.undo(), 0);
        due("vectors", x.count(0), 1);
    }

    private void oneSnapshot() {
        check.topic("There is one snapshot, empty at first");
        TailVectors x = Make.filled(5);
        due("none", x.restore(), NONE);
        x.keep();
        x.set(1, 0, 1);
        due("in place of the first", x.keep(), 4);
        x.drop(2);
        due("restore", x.restore(), 4);
        due("the second one", x.get(2, 0), 1);
        x.undo();
        x.undo();
        x.undo();
        due("restore", x.restore(), 4);
        due("the second one", x.get(2, 0), 1);
    }

    private void notPartOfAState() {
        check.topic("A state is everything but the text, the history and the snapshot");
        TailVectors x = new TailVectors();
        x.type('1');
        x.keep();
        x.push(0, 1);
        x.type('2');
        due("undo", x.undo(), 0);
        due("the text stays", x.count(8), 2);
        x.push(0, 1);
        x.push(0, 1);
        due("restore", x.restore(), 0);
        due("the text stays", x.count(8), 2);
        due("the history stays", x.count(7), 3);
        x.push(0, 1);
        x.keep();
        x.undo();
        due("the snapshot stays", x.restore(), 0);
        due("with the vector", x.count(0), 2);
        x.clearText();
        x.undo();
        due("the text stays empty", x.count(8), 0);
    }

    private void madeIsPartOfAState() {
        check.topic("A state is everything; also how many blocks were made");
        TailVectors x = Make.filled(4);
        x.keep();
        x.push(1, 1);
        due("made", x.count(2), 2);
        x.undo();
        due("made after undo", x.count(2), 0);
        x.push(1, 1);
        due("numbers come again", x.block(2, 0, 0), 0);
        due("restore", x.restore(), 0);
        due("made after restore", x.count(2), 0);
        due("none is unused", x.count(4), 0);
        x.undo();
        due("made after undo of restore", x.count(2), 2);
    }

    private void theEditIsPartOfAState() {
        check.topic("A state is everything: also the edit");
        TailVectors x = Make.filled(5);
        x.keep();
        x.begin(1);
        x.undo();
        due("no edit", x.count(5), 0);
        x.begin(1);
        x.editPush(3);
        x.finish();
        x.undo();
        due("the edit again", x.edit(0), 6);
        x.undo();
        due("before the push", x.edit(0), 5);
        x.abandon();
        x.undo();
        due("the edit again", x.edit(0), 5);
        x.restore();
        due("no edit", x.count(5), 0);
        x.undo();
        due("the edit again", x.edit(0), 5);
        x.keep();
        x.abandon();
        x.restore();
        due("the edit again", x.edit(0), 5);
    }

    private void ownershipIsPartOfAState() {
        check.topic("A state is everything: also what is the edit's own");
        TailVectors x = Make.filled(21);
        x.begin(1);
        x.editSet(0, 500);
        x.finish();
        x.undo();
        due("its own again", x.edit(1), 3);
        due("in place", x.editSet(0, 501), 0);
        x.undo();
        x.undo();
        due("nothing is its own", x.edit(1), 0);
        due("made anew", x.editSet(0, 502), 3);
        x.keep();
        x.abandon();
        x.begin(1);
        due("another edit", x.edit(1), 0);
        x.restore();
        due("its own again", x.edit(1), 3);
        due("in place", x.editSet(0, 503), 0);
    }

    private void inPlaceDoesNotChangeHistory() {
        check.topic("What an edit changes in place later does not change a state that was recorded");
        TailVectors x = new TailVectors();
        Make.fillEdit(x, 24);
        String before = Make.told(x);
        x.editSet(0, 500);
        x.editPush(501);
        x.editSet(5, 502);
        Make.typeAll(x, "1,2,3,4,5,6");
        x.editRead();
        x.clearText();
        Make.emptyHistory(x);
        same("after four undos", Make.told(x), before);
        x.finish();
        for (int place = 0; place < 24; place++) {
            due("value " + place, x.get(1, place), place % 10);
        }
        inPlaceDoesNotChangeAStateBeforeAPop();
    }

    private void inPlaceDoesNotChangeAStateBeforeAPop() {
        TailVectors x = new TailVectors();
        Make.fillEdit(x, 33);
        String before = Make.told(x);
        x.editPop();
        x.editPush(503);
        x.editSet(0, 504);
        x.undo();
        x.undo();
        x.undo();
        same("after three undos", Make.told(x), before);
        x.finish();
        due("value", x.get(1, 0), 0);
        due("last value", x.get(1, 32), 2);
        due("last leaf", x.block(1, 0, 7), 10);
    }

    private void inPlaceDoesNotChangeTheSnapshot() {
        check.topic("What an edit changes in place later: the snapshot");
        TailVectors x = new TailVectors();
        Make.fillEdit(x, 24);
        String before = Make.told(x);
        x.keep();
        for (int place = 0; place < 24; place++) {
            x.editSet(place, 500);
        }
        x.editPush(1);
        x.finish();
        x.restore();
        same("after restore", Make.told(x), before);
        x.finish();
        for (int place = 0; place < 24; place++) {
            due("value " + place, x.get(1, place), place % 10);
        }
    }

    private void restoredIsChangedButTheSnapshotStays() {
        check.topic("Restores the state of the snapshot, which stays");
        TailVectors x = new TailVectors();
        Make.fillEdit(x, 24);
        x.keep();
        String before = Make.told(x);
        for (int i = 0; i < 3; i++) {
            x.restore();
            same("restored", Make.told(x), before);
            due("in place", x.editSet(0, 500 + i), 0);
            due("finish", x.finish(), 1);
            due("value", x.get(1, 0), 500 + i);
        }
        x.restore();
        x.finish();
        due("value", x.get(1, 0), 0);
    }
}
