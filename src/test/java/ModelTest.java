/** Long runs of mixed calls, each answer compared with the model's. */
public final class ModelTest {
    private static final int RUNS = 1200;
    private static final int MOST_CALLS = 512;
    private static final int PUSH = 0, SET = 1, POP = 2, WINDOW = 3, DROP = 4, BEGIN = 5,
        EDIT_PUSH = 6, EDIT_SET = 7, EDIT_POP = 8, EDIT_READ = 9, FINISH = 10, ABANDON = 11,
        TYPE = 12, CLEAR_TEXT = 13, UNDO = 14, KEEP = 15, RESTORE = 16, GET = 17, VECTOR = 18,
        BLOCK = 19, SHARED = 20, DIFFER = 21, FIND = 22, WOULD_MAKE = 23, EDIT = 24, COUNT = 25;
    private static final String[] NAMES = {"push", "set", "pop", "window", "drop", "begin",
        "editPush", "editSet", "editPop", "editRead", "finish", "abandon", "type", "clearText",
        "undo", "keep", "restore", "get", "vector", "block", "shared", "differ", "find",
        "wouldMake", "edit", "count"};
    /** How often each call comes up in runs of a kind, in the order of the names. */
    private static final int[][] WEIGHTS = {
        {9, 4, 3, 3, 1, 2, 9, 4, 4, 2, 2, 1, 6, 1, 3, 1, 1, 6, 9, 9, 5, 3, 4, 6, 7, 9},
        {2, 1, 1, 1, 1, 2, 12, 6, 14, 4, 1, 1, 1, 0, 3, 1, 1, 1, 2, 4, 2, 1, 1, 2, 9, 5},
        {12, 5, 5, 4, 1, 1, 2, 1, 2, 1, 1, 1, 0, 0, 14, 1, 2, 3, 6, 9, 5, 2, 2, 4, 2, 6},
        {3, 3, 9, 1, 1, 3, 3, 4, 25, 9, 2, 1, 0, 0, 2, 1, 2, 2, 5, 8, 3, 2, 2, 6, 9, 5},
    };

    private final Check check;
    private final int run;
    private final TailVectors program = new TailVectors();
    private final Model model = new Model();
    private long seed;
    private int calls = 0;

    private ModelTest(Check check, int run) {
        this.check = check;
        this.run = run;
        this.seed = run * 7919L + 17;
    }

    public static void main(String[] args) {
        Check check = new Check();
        for (int run = 0; run < RUNS && !check.anyWrong(); run++) {
            new ModelTest(check, run).play();
        }
        check.end();
    }

    private int below(int bound) {
        seed = seed * 6364136223846793005L + 1442695040888963407L;
        return (int) ((seed >>> 33) % bound);
    }

    private void play() {
        int kind = run % WEIGHTS.length;
        if (kind == 1 || kind == 3) {
            fillEdit(below(12));
        }
        int last = 60 + below(MOST_CALLS - 60 + 1);
        while (calls < last && !check.anyWrong()) {
            playOne(choose(WEIGHTS[kind]));
        }
    }

    /** Long rows need many values: the edit reads a long text again and again. */
    private void fillEdit(int times) {
        call(BEGIN, 0, 0, 0);
        int values = 1 + below(30);
        for (int i = 0; i < values; i++) {
            if (i > 0) {
                call(TYPE, ',', 0, 0);
            }
            call(TYPE, '0' + below(10), 0, 0);
        }
        for (int i = 0; i < times; i++) {
            call(EDIT_READ, 0, 0, 0);
        }
        for (int i = below(40); i > 0; i--) {
            call(EDIT_PUSH, below(1000), 0, 0);
        }
        if (below(2) == 0) {
            call(FINISH, 0, 0, 0);
            call(BEGIN, 1, 0, 0);
        }
    }

    private int choose(int[] weights) {
        int sum = 0;
        for (int weight : weights) {
            sum += weight;
        }
        int at = below(sum);
        int op = 0;
        while (at >= weights[op]) {
            at -= weights[op];
            op++;
        }
        return op;
    }

    private int someVector() {
        int ever = model.count(0);
        switch (below(8)) {
            case 0: return below(26) - 1;
            case 1: case 2: return below(ever);
            default: return ever - 1 - below(Math.min(ever, 3));
        }
    }

    private int somePlace(int vector) {
        int length = Math.max(model.vector(vector, 0), 0);
        switch (below(10)) {
            case 0: return length - 1 + below(3);
            case 1: return -1 - below(2);
            case 2: return below(2) == 0 ? Integer.MAX_VALUE : Integer.MIN_VALUE;
            default: return below(length + 1);
        }
    }

    private int someValue() {
        switch (below(12)) {
            case 0: return -1;
            case 1: return 1000;
            case 2: return 999;
            case 3: return 0;
            default: return below(8);
        }
    }

    private char someCharacter() {
        switch (below(14)) {
            case 0: return (char) below(65536);
            case 1: return '0';
            case 2: case 3: case 4: case 5: return ',';
            default: return (char) ('0' + below(10));
        }
    }

    private void playOne(int op) {
        int v = someVector();
        switch (op) {
            case PUSH: call(op, v, someValue(), 0); break;
            case SET: call(op, v, somePlace(v), someValue()); break;
            case WINDOW: call(op, v, somePlace(v), somePlace(v)); break;
            case EDIT_PUSH: call(op, someValue(), 0, 0); break;
            case EDIT_SET: call(op, below(Math.max(model.edit(0), 0) + 2) - 1, someValue(), 0); break;
            case TYPE: call(op, someCharacter(), 0, 0); break;
            case GET: call(op, v, somePlace(v), 0); break;
            case VECTOR: call(op, v, below(12) - 1, 0); break;
            case BLOCK: call(op, v, below(7) - 1, below(below(2) == 0 ? 80 : 5) - 1); break;
            case SHARED: case DIFFER: call(op, v, someVector(), 0); break;
            case FIND: call(op, v, someValue(), somePlace(v)); break;
            case WOULD_MAKE: call(op, v, below(5) - 1, 0); break;
            case EDIT: call(op, below(7) - 1, 0, 0); break;
            case COUNT: call(op, below(11) - 1, 0, 0); break;
            default: call(op, v, 0, 0); break;
        }
    }

    private void call(int op, int a, int b, int c) {
        calls++;
        String name = NAMES[op] + "(" + a + ", " + b + ", " + c + ")";
        check.topic("run " + run + ", call " + calls);
        check.due(name, askProgram(program, op, a, b, c), askModel(model, op, a, b, c));
    }

    private static int askProgram(TailVectors x, int op, int a, int b, int c) {
        switch (op) {
            case PUSH: return x.push(a, b);
            case SET: return x.set(a, b, c);
            case POP: return x.pop(a);
            case WINDOW: return x.window(a, b, c);
            case DROP: return x.drop(a);
            case BEGIN: return x.begin(a);
            case EDIT_PUSH: return x.editPush(a);
            case EDIT_SET: return x.editSet(a, b);
            case EDIT_POP: return x.editPop();
            case EDIT_READ: return x.editRead();
            case FINISH: return x.finish();
            case ABANDON: return x.abandon();
            case TYPE: return x.type((char) a);
            case CLEAR_TEXT: return x.clearText();
            case UNDO: return x.undo();
            case KEEP: return x.keep();
            case RESTORE: return x.restore();
            case GET: return x.get(a, b);
            case VECTOR: return x.vector(a, b);
            case BLOCK: return x.block(a, b, c);
            case SHARED: return x.shared(a, b);
            case DIFFER: return x.differ(a, b);
            case FIND: return x.find(a, b, c);
            case WOULD_MAKE: return x.wouldMake(a, b);
            case EDIT: return x.edit(a);
            default: return x.count(a);
        }
    }

    private static int askModel(Model x, int op, int a, int b, int c) {
        switch (op) {
            case PUSH: return x.push(a, b);
            case SET: return x.set(a, b, c);
            case POP: return x.pop(a);
            case WINDOW: return x.window(a, b, c);
            case DROP: return x.drop(a);
            case BEGIN: return x.begin(a);
            case EDIT_PUSH: return x.editPush(a);
            case EDIT_SET: return x.editSet(a, b);
            case EDIT_POP: return x.editPop();
            case EDIT_READ: return x.editRead();
            case FINISH: return x.finish();
            case ABANDON: return x.abandon();
            case TYPE: return x.type((char) a);
            case CLEAR_TEXT: return x.clearText();
            case UNDO: return x.undo();
            case KEEP: return x.keep();
            case RESTORE: return x.restore();
            case GET: return x.get(a, b);
            case VECTOR: return x.vector(a, b);
            case BLOCK: return x.block(a, b, c);
            case SHARED: return x.shared(a, b);
            case DIFFER: return x.differ(a, b);
            case FIND: return x.find(a, b, c);
            case WOULD_MAKE: return x.wouldMake(a, b);
            case EDIT: return x.edit(a);
            default: return x.count(a);
        }
    }
}
