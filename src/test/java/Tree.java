import java.util.ArrayList;
import java.util.List;

/** The numbers of the blocks of a row, as the program tells them, level by level. */
final class Tree {
    private static final int NONE = -5;
    private static final int LEVELS = 6;

    private final List<List<Integer>> levels = new ArrayList<>();

    Tree(TailVectors x, int vector) {
        for (int level = 0; level < LEVELS; level++) {
            List<Integer> numbers = new ArrayList<>();
            int number = x.block(vector, level, 0);
            while (number >= 0 && numbers.size() < 100) {
                numbers.add(number);
                number = x.block(vector, level, numbers.size());
            }
            levels.add(numbers);
        }
    }

    int at(int level, int place) {
        List<Integer> numbers = levels.get(level);
        return place < numbers.size() ? numbers.get(place) : NONE;
    }

    int size(int level) {
        return levels.get(level).size();
    }

    int levels() {
        return LEVELS;
    }
}
