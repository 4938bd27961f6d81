import java.util.ArrayList;
import java.util.List;

/**
 * The sentences under "Trees", "Pushing", "Setting" and "Popping", each for all lengths of a row
 * at which it could break: the blocks that are made are told as levels and places in their order,
 * all others must be those of the row before.
 */
public final class TreesTest {
    private static final int NONE = -5;
    private static final int LONGEST = 300;
    /** Lengths around which a leaf, a level or the whole row is full. */
    private static final int[] EDGES = {1, 3, 4, 5, 8, 9, 17, 20, 21, 24, 25, 36, 37, 41, 68, 69, 72,
        73, 84, 85, 260, 261, 264, 265, 276, 277, 299, 300};

    private final Check check = new Check();

    public static void main(String[] args) {
        TreesTest test = new TreesTest();
        test.tailHasOneToFourValues();
        test.othersLieInLeavesOfFour();
        test.allButTheRightmostBlocksHaveFourParts();
        test.rootIsTheLeastLevelThatHasRoom();
        test.withoutLeavesThereIsNoRoot();
        test.numbersGoFromZeroOnWithoutGaps();
        test.pushIntoATailWithFewerThanFour();
        test.pushWithoutARoot();
        test.pushBesideAFullTree();
        test.pushOntoThePath();
        test.pushKeepsTheValues();
        test.setInTheTail();
        test.setInTheTree();
        test.setToTheSameValue();
        test.popFromATailWithMoreThanOne();
        test.popOfTheOnlyValue();
        test.popOfTheOnlyLeaf();
        test.popKeepsBlocksThatKeepParts();
        test.popLetsBlocksWithoutPartsGo();
        test.popTakesARootWithOnePartAway();
        test.popKeepsARootOfLevelOneWithOnePart();
        test.popKeepsTheValues();
        test.wouldMakeTellsTheSame();
        test.ownBlocksAreChangedInPlace();
        test.check.end();
    }

    // ---- what is due

    private static int tailOf(int length) {
        return length == 0 ? 0 : (length - 1) % 4 + 1;
    }

    private static int leavesOf(int length) {
        return (length - tailOf(length)) / 4;
    }

    private static int fourTo(int power) {
        int result = 1;
        for (int i = 0; i < power; i++) {
            result *= 4;
        }
        return result;
    }

    private static int rootOf(int leaves) {
        int level = 1;
        while (fourTo(level) < leaves) {
            level++;
        }
        return leaves == 0 ? NONE : level;
    }

    /** How many blocks of a level there are over so many leaves. */
    private static int blocksOf(int leaves, int level) {
        return level > rootOf(leaves) ? 0 : (leaves + fourTo(level) - 1) / fourTo(level);
    }

    private static void path(List<int[]> made, int leaf, int last) {
        for (int level = 0; level <= last; level++) {
            made.add(new int[] {level, leaf / fourTo(level)});
        }
    }

    private static List<int[]> madeByPush(int length) {
        List<int[]> made = new ArrayList<>();
        int leaves = leavesOf(length);
        if (tailOf(length) < 4) {
            return made;
        }
        if (leaves == 0) {
            path(made, 0, 1);
        } else if (leaves == fourTo(rootOf(leaves))) {
            path(made, leaves, rootOf(leaves));
            made.add(new int[] {rootOf(leaves) + 1, 0});
        } else {
            path(made, leaves, rootOf(leaves));
        }
        return made;
    }

    private static List<int[]> madeBySet(int length, int place) {
        List<int[]> made = new ArrayList<>();
        if (place / 4 < leavesOf(length)) {
            path(made, place / 4, rootOf(leavesOf(length)));
        }
        return made;
    }

    private static List<int[]> madeByPop(int length) {
        List<int[]> made = new ArrayList<>();
        int leaves = leavesOf(length);
        if (tailOf(length) > 1 || leaves == 0) {
            return made;
        }
        int root = rootOf(leaves);
        for (int level = 1; level <= root; level++) {
            boolean keepsAny = (leaves - 1) % fourTo(level) != 0;
            boolean rootWithOnePart = level == root && level > 1 && leaves - 1 == fourTo(level - 1);
            if (keepsAny && !rootWithOnePart) {
                made.add(new int[] {level, (leaves - 1) / fourTo(level)});
            }
        }
        return made;
    }

    private static boolean makesLeaf(int length) {
        return tailOf(length) == 4;
    }

    private static boolean isFull(int leaves) {
        return leaves > 0 && leaves == fourTo(rootOf(leaves));
    }

    // ---- comparing

    private void due(String call, long got, long want) {
        check.due(call, got, want);
    }

    private void checkShape(String name, Tree tree, int length) {
        for (int level = 0; level < tree.levels(); level++) {
            due(name + ": blocks of level " + level, tree.size(level), blocksOf(leavesOf(length), level));
        }
    }

    /** The blocks made have the next numbers in their order, the others their old ones. */
    private void checkMade(String name, Tree before, Tree after, List<int[]> made, int next) {
        for (int level = 0; level < after.levels(); level++) {
            for (int place = 0; place < after.size(level); place++) {
                int want = before.at(level, place);
                for (int i = 0; i < made.size(); i++) {
                    if (made.get(i)[0] == level && made.get(i)[1] == place) {
                        want = next + i;
                    }
                }
                due(name + ": level " + level + ", place " + place, after.at(level, place), want);
            }
        }
    }

    private void checkPush(int length) {
        TailVectors x = Make.filled(length);
        int next = x.count(2);
        Tree before = new Tree(x, 1);
        due("push on " + length, x.push(1, 5), 2);
        List<int[]> made = madeByPush(length);
        due("made by push on " + length, x.count(2) - next, made.size());
        Tree after = new Tree(x, 2);
        checkShape("push on " + length, after, length + 1);
        checkMade("push on " + length, before, after, made, next);
        checkEdited("push on " + length, length, made, 0, 0);
    }

    private void checkSet(int length, int place) {
        String name = "set of " + place + " in " + length;
        TailVectors x = Make.filled(length);
        int next = x.count(2);
        Tree before = new Tree(x, 1);
        due(name, x.set(1, place, 999), 2);
        List<int[]> made = madeBySet(length, place);
        due("made by " + name, x.count(2) - next, made.size());
        Tree after = new Tree(x, 2);
        checkShape(name, after, length);
        checkMade(name, before, after, made, next);
        due(name + ": value", x.get(2, place), 999);
        due(name + ": differs there first", x.differ(1, 2), place);
    }

    private void checkPop(int length) {
        TailVectors x = Make.filled(length);
        int next = x.count(2);
        Tree before = new Tree(x, 1);
        due("pop of " + length, x.pop(1), 2);
        List<int[]> made = madeByPop(length);
        due("made by pop of " + length, x.count(2) - next, made.size());
        Tree after = new Tree(x, 2);
        checkShape("pop of " + length, after, length - 1);
        checkMade("pop of " + length, before, after, made, next);
        checkEdited("pop of " + length, length, made, 1, 0);
    }

    /** An edit to which nothing belongs yet makes the same blocks: by a push, a pop or a set. */
    private void checkEdited(String name, int length, List<int[]> made, int what, int place) {
        TailVectors x = Make.filled(length);
        int next = x.count(2);
        Tree before = new Tree(x, 1);
        x.begin(1);
        int answer = what == 0 ? x.editPush(5) : what == 1 ? x.editPop() : x.editSet(place, 999);
        due("edit, " + name, answer, made.size());
        due("edit, " + name + ": its own", x.edit(1), made.size());
        x.finish();
        checkMade("edit, " + name, before, new Tree(x, 2), made, next);
    }

    // ---- trees

    private void tailHasOneToFourValues() {
        check.topic("The tail has 1 to 4 values, the last ones of the row (none, if the row is empty)");
        int[] tails = {0, 1, 2, 3, 4, 1, 2, 3, 4, 1};
        for (int length = 0; length < tails.length; length++) {
            due("tail of " + length, Make.filled(length).vector(1, 7), tails[length]);
        }
        for (int length = 0; length <= LONGEST; length++) {
            due("tail of " + length, Make.filled(length).vector(1, 7), tailOf(length));
        }
    }

    private void othersLieInLeavesOfFour() {
        check.topic("all others lie in the tree, four and four in its leaves");
        for (int length = 0; length <= LONGEST; length++) {
            TailVectors x = Make.filled(length);
            due("leaves of " + length, x.vector(1, 4), leavesOf(length));
            due("last leaf of " + length, x.block(1, 0, leavesOf(length)), NONE);
        }
    }

    private void allButTheRightmostBlocksHaveFourParts() {
        check.topic("all but the rightmost ones of a level have 4");
        for (int length = 0; length <= LONGEST; length++) {
            TailVectors x = Make.filled(length);
            Tree tree = new Tree(x, 1);
            checkShape("row of " + length, tree, length);
            int blocks = 0;
            for (int level = 0; level < tree.levels(); level++) {
                blocks += tree.size(level);
            }
            due("blocks of " + length, x.vector(1, 5), blocks);
        }
    }

    private void rootIsTheLeastLevelThatHasRoom() {
        check.topic("the least number r, 1 or greater, for which 4 to the power r is not less");
        int[] lengths = {5, 8, 9, 20, 21, 68, 69, 260, 261, 300};
        int[] roots = {1, 1, 1, 1, 2, 2, 3, 3, 4, 4};
        for (int i = 0; i < lengths.length; i++) {
            due("root of " + lengths[i], Make.filled(lengths[i]).vector(1, 6), roots[i]);
        }
        for (int length = 0; length <= LONGEST; length++) {
            due("root of " + length, Make.filled(length).vector(1, 6), rootOf(leavesOf(length)));
        }
    }

    private void withoutLeavesThereIsNoRoot() {
        check.topic("without leaves there is no root");
        for (int length = 0; length <= 4; length++) {
            TailVectors x = Make.filled(length);
            due("root of " + length, x.vector(1, 6), NONE);
            due("level 1 of " + length, x.block(1, 1, 0), NONE);
            x.begin(1);
            due("root of the edit, " + length, x.edit(4), NONE);
        }
        TailVectors y = Make.filled(5);
        y.begin(1);
        due("root of the edit, 5", y.edit(4), 1);
    }

    private void numbersGoFromZeroOnWithoutGaps() {
        check.topic("Each block has a number, from 0 on, in the order in which they were made");
        TailVectors x = Make.filled(5);
        due("the first", x.block(1, 0, 0), 0);
        due("the second", x.block(1, 1, 0), 1);
        x.set(1, 0, 7);
        x.set(1, 1, 7);
        x.drop(2);
        due("leaf behind blocks that nobody uses", x.set(1, 2, 7), 4);
        due("its number", x.block(4, 0, 0), 6);
        due("its root", x.block(4, 1, 0), 7);
        due("made", x.count(2), 8);
    }

    // ---- pushing

    private void pushIntoATailWithFewerThanFour() {
        check.topic("If the tail has fewer than 4 values, the value comes into the tail");
        for (int length = 0; length < LONGEST; length++) {
            if (!makesLeaf(length)) {
                checkPush(length);
            }
        }
        TailVectors x = Make.filled(7);
        x.push(1, 500);
        due("tail with 3", x.vector(2, 7), 4);
        due("nothing is made", x.count(2), 2);
        due("all is shared", x.shared(1, 2), 2);
        due("leaves", x.vector(2, 4), 1);
    }

    private void pushWithoutARoot() {
        check.topic("if there is no root, a block of the level 1 is made with this leaf");
        checkPush(4);
        TailVectors x = Make.filled(4);
        x.push(1, 500);
        due("the value alone is the new tail", x.vector(2, 7), 1);
        due("the leaf first", x.block(2, 0, 0), 0);
        due("the root behind it", x.block(2, 1, 0), 1);
        due("of level 1", x.vector(2, 6), 1);
    }

    private void pushBesideAFullTree() {
        check.topic("if there are just 4 to the power r leaves");
        int found = 0;
        for (int length = 1; length < LONGEST; length++) {
            if (makesLeaf(length) && isFull(leavesOf(length))) {
                found++;
                checkPush(length);
            }
        }
        due("lengths with a full tree", found, 3);
    }

    private void pushOntoThePath() {
        check.topic("with one part, if there was none, or anew with one part more or another last one");
        for (int length = 5; length < LONGEST; length++) {
            if (makesLeaf(length) && !isFull(leavesOf(length))) {
                checkPush(length);
            }
        }
    }

    private void pushKeepsTheValues() {
        check.topic("a leaf is made of the tail; the value alone is the new tail");
        for (int length : EDGES) {
            if (length < LONGEST) {
                TailVectors x = Make.filled(length);
                x.push(1, 500);
                due("length", x.vector(2, 0), length + 1);
                due("differ", x.differ(1, 2), length);
                due("last", x.get(2, length), 500);
                due("the one before", x.get(2, length - 1), (length - 1) % 10);
            }
        }
    }

    // ---- setting

    private void setInTheTail() {
        check.topic("In the tail, the tree stays");
        for (int length : EDGES) {
            checkSet(length, length - 1);
            checkSet(length, length - tailOf(length));
        }
    }

    private void setInTheTree() {
        check.topic("Otherwise the leaf is made anew, and then each block on the path to it");
        for (int length : EDGES) {
            for (int leaf = 0; leaf < leavesOf(length); leaf++) {
                checkSet(length, 4 * leaf + leaf % 4);
            }
            if (leavesOf(length) > 0) {
                checkSet(length, 0);
                checkSet(length, 4 * leavesOf(length) - 1);
                checkEdited("set in " + length, length, madeBySet(length, 0), 2, 0);
            }
        }
    }

    private void setToTheSameValue() {
        check.topic("SETTING changes a value of a row (also to the same value)");
        TailVectors x = Make.filled(21);
        due("set", x.set(1, 3, 3), 2);
        due("three blocks are made", x.count(2), 11);
        due("one path is not shared", x.shared(1, 2), 5);
        due("the values are the same", x.differ(1, 2), NONE);
        due("in the tail", x.set(1, 20, 0), 3);
        due("nothing is made", x.count(2), 11);
        x.begin(1);
        due("by an edit", x.editSet(3, 3), 3);
        due("again", x.editSet(3, 3), 0);
    }

    // ---- popping

    private void popFromATailWithMoreThanOne() {
        check.topic("If the tail has more than 1 value, the tree stays");
        for (int length = 2; length <= LONGEST; length++) {
            if (tailOf(length) > 1) {
                checkPop(length);
            }
        }
        TailVectors x = Make.filled(6);
        x.pop(1);
        due("tail with 2", x.vector(2, 7), 1);
        due("the leaf stays", x.vector(2, 4), 1);
    }

    private void popOfTheOnlyValue() {
        check.topic("the last leaf is the new tail (if there are leaves)");
        TailVectors x = Make.filled(1);
        due("pop", x.pop(1), 2);
        due("length", x.vector(2, 0), 0);
        due("tail", x.vector(2, 7), 0);
        due("nothing is made", x.count(2), 0);
        checkPop(1);
    }

    private void popOfTheOnlyLeaf() {
        check.topic("the last leaf goes from the tree; a block that keeps no part goes, too");
        TailVectors x = Make.filled(5);
        due("pop", x.pop(1), 2);
        due("tail", x.vector(2, 7), 4);
        due("root", x.vector(2, 6), NONE);
        due("blocks", x.vector(2, 5), 0);
        due("nothing is made", x.count(2), 2);
        checkPop(5);
    }

    private static boolean losesALeaf(int length) {
        return tailOf(length) == 1 && leavesOf(length) > 1;
    }

    private void popKeepsBlocksThatKeepParts() {
        check.topic("each block on the path to it that keeps any part is made anew");
        for (int length = 9; length <= LONGEST; length++) {
            if (losesALeaf(length) && (leavesOf(length) - 1) % 4 != 0) {
                checkPop(length);
            }
        }
    }

    private void popLetsBlocksWithoutPartsGo() {
        check.topic("one that keeps none goes, too");
        for (int length = 9; length <= LONGEST; length++) {
            if (losesALeaf(length) && (leavesOf(length) - 1) % 4 == 0 && !isFull(leavesOf(length) - 1)) {
                checkPop(length);
            }
        }
    }

    private void popTakesARootWithOnePartAway() {
        check.topic("a root of a level above 1 that would have just one part is not made");
        int found = 0;
        for (int length = 9; length <= LONGEST; length++) {
            if (losesALeaf(length) && isFull(leavesOf(length) - 1)) {
                found++;
                checkPop(length);
                TailVectors x = Make.filled(length);
                int root = x.vector(1, 6);
                x.pop(1);
                due("root", x.vector(2, 6), root - 1);
                due("its part is the root", x.block(2, root - 1, 0), x.block(1, root - 1, 0));
                due("no root above", x.block(2, root, 0), NONE);
            }
        }
        due("lengths with such a root", found, 3);
    }

    private void popKeepsARootOfLevelOneWithOnePart() {
        check.topic("a root of a level above 1");
        TailVectors x = Make.filled(9);
        due("pop", x.pop(1), 2);
        due("level of the root", x.vector(2, 6), 1);
        due("made anew", x.block(2, 1, 0), 3);
        due("its only part", x.block(2, 0, 0), 0);
        due("no other part", x.block(2, 0, 1), NONE);
        checkPop(9);
    }

    private void popKeepsTheValues() {
        check.topic("POPPING takes the last value away");
        for (int length : EDGES) {
            TailVectors x = Make.filled(length);
            x.pop(1);
            due("length", x.vector(2, 0), length - 1);
            due("differ", x.differ(1, 2), length - 1);
            due("behind", x.get(2, length - 1), -1);
            due("the old one", x.get(1, length - 1), (length - 1) % 10);
        }
    }

    private void wouldMakeTellsTheSame() {
        check.topic("Tells how many blocks pushing, setting or popping would make");
        for (int length = 1; length <= LONGEST; length++) {
            TailVectors x = Make.filled(length);
            int push = length == LONGEST ? -4 : madeByPush(length).size();
            due("push on " + length, x.wouldMake(1, 0), push);
            due("pop of " + length, x.wouldMake(1, 1), madeByPop(length).size());
            due("set in " + length, x.wouldMake(1, 2), madeBySet(length, 0).size());
        }
    }

    // ---- the edit

    private static int allBlocks(int length) {
        int blocks = 0;
        for (int level = 0; level < 5; level++) {
            blocks += blocksOf(leavesOf(length), level);
        }
        return blocks;
    }

    /** With all blocks its own, an edit makes only those for which there was none. */
    private void ownBlocksAreChangedInPlace() {
        check.topic("where a block is to be made anew that is its own, it is changed in place");
        TailVectors x = new TailVectors();
        x.begin(0);
        for (int length = 0; length < LONGEST; length++) {
            due("push on " + length, x.editPush(1), allBlocks(length + 1) - allBlocks(length));
        }
        due("all are its own", x.edit(1), allBlocks(LONGEST));
        due("all that were made", x.count(2), allBlocks(LONGEST));
        TailVectors y = new TailVectors();
        Make.fillEdit(y, LONGEST);
        for (int length = LONGEST; length > 0; length--) {
            due("pop of " + length, y.editPop(), 0);
        }
        due("made", y.count(2), allBlocks(LONGEST));
        due("none has any more", y.count(4), allBlocks(LONGEST));
        TailVectors z = new TailVectors();
        Make.fillEdit(z, LONGEST);
        for (int place = 0; place < LONGEST; place++) {
            due("set of " + place, z.editSet(place, 500), 0);
        }
        due("made", z.count(2), allBlocks(LONGEST));
    }
}
