import com.sun.management.ThreadMXBean;
import java.lang.management.ManagementFactory;
import java.util.function.Consumer;

/**
 * All calls of one run live in one room: some 600,000 objects and arrays, 7.3 million fields and
 * elements. Bytes are what a machine tells; a field or an element has at least one, an object or an
 * array 16, so a run that takes fewer bytes than there may be fields keeps both bounds.
 */
public final class RoomTest {
    private static final int MOST_CALLS = 512;
    /** With the calls that make the object, and an undo for each, still fewer than 512. */
    private static final int MEASURED = 128;
    private static final long MOST_BYTES = 7_300_000;
    private static final int LEAST_OBJECT = 16;
    private static final String THIRTY = "0,1,2,3,4,5,6,7,8,9,0,1,2,3,4,5,6,7,8,9,0,1,2,3,4,5,6,7,8,9";

    private final Check check = new Check();
    private final ThreadMXBean thread = (ThreadMXBean) ManagementFactory.getThreadMXBean();

    public static void main(String[] args) {
        RoomTest test = new RoomTest();
        test.acts();
        test.asking();
        test.making();
        test.check.end();
    }

    /** How many bytes a call takes, one time with another. */
    private long bytes(TailVectors x, Consumer<TailVectors> call) {
        call.accept(x);
        long before = thread.getCurrentThreadAllocatedBytes();
        for (int i = 0; i < MEASURED; i++) {
            call.accept(x);
        }
        return (thread.getCurrentThreadAllocatedBytes() - before) / MEASURED;
    }

    private void keepsTheRoom(String what, TailVectors x, Consumer<TailVectors> call) {
        long bytes = bytes(x, call);
        check.that(what + " takes " + bytes + " bytes", bytes * MOST_CALLS < MOST_BYTES);
    }

    private void takesNoRoom(String what, TailVectors x, Consumer<TailVectors> call) {
        long bytes = bytes(x, call);
        check.that(what + " takes " + bytes + " bytes", bytes < LEAST_OBJECT);
    }

    private static TailVectors longest() {
        TailVectors x = Make.filled(300);
        Make.typeAll(x, THIRTY);
        x.window(1, 0, 300);
        return x;
    }

    private static TailVectors edited(int many) {
        TailVectors x = Make.filled(many);
        Make.typeAll(x, THIRTY);
        x.begin(1);
        return x;
    }

    private void acts() {
        check.topic("the room of 512 acts");
        keepsTheRoom("set", longest(), x -> undone(x, x.set(1, 0, 1)));
        keepsTheRoom("push", longest(), x -> undone(x, x.push(0, 1)));
        keepsTheRoom("pop", longest(), x -> undone(x, x.pop(1)));
        keepsTheRoom("window", longest(), x -> undone(x, x.window(2, 0, 300)));
        keepsTheRoom("begin", longest(), x -> undone(x, x.begin(1)));
        keepsTheRoom("editSet", edited(300), x -> x.editSet(0, 1));
        keepsTheRoom("editPush", edited(299), x -> undone(x, x.editPush(1)));
        keepsTheRoom("editPop", edited(300), x -> undone(x, x.editPop()));
        keepsTheRoom("editRead", edited(270), x -> undone(x, x.editRead()));
        keepsTheRoom("finish", edited(300), x -> undone(x, x.finish()));
    }

    private static void undone(TailVectors x, int answer) {
        if (answer >= 0) {
            x.undo();
        }
    }

    private void asking() {
        check.topic("asking and history make nothing");
        takesNoRoom("get", longest(), x -> x.get(1, 299));
        for (int i = 0; i <= 9; i++) {
            int what = i;
            takesNoRoom("vector " + what, longest(), x -> x.vector(1, what));
        }
        takesNoRoom("block", longest(), x -> x.block(1, 0, 73));
        takesNoRoom("shared", longest(), x -> x.shared(1, 2));
        takesNoRoom("differ", longest(), x -> x.differ(1, 2));
        takesNoRoom("find", longest(), x -> x.find(1, -7, 0));
        for (int i = 0; i <= 2; i++) {
            int what = i;
            TailVectors asked = what == 0 ? Make.filled(296) : longest();
            takesNoRoom("wouldMake " + what, asked, x -> x.wouldMake(1, what));
        }
        for (int i = 0; i <= 4; i++) {
            int what = i;
            takesNoRoom("edit " + what, edited(300), x -> x.edit(what));
        }
        for (int i = 0; i <= 8; i++) {
            int what = i;
            takesNoRoom("count " + what, edited(300), x -> x.count(what));
        }
        takesNoRoom("keep", edited(300), x -> x.keep());
        takesNoRoom("restore", kept(), x -> x.restore());
        takesNoRoom("type", longest(), x -> x.type('1'));
        takesNoRoom("a refused call", longest(), x -> x.push(1, 0));
    }

    private static TailVectors kept() {
        TailVectors x = edited(300);
        x.keep();
        return x;
    }

    private void making() {
        check.topic("the room of many objects");
        long before = thread.getCurrentThreadAllocatedBytes();
        for (int i = 0; i < 100; i++) {
            new TailVectors().count(0);
        }
        long bytes = thread.getCurrentThreadAllocatedBytes() - before;
        check.that("100 objects take " + bytes + " bytes", bytes < MOST_BYTES / 10);
    }
}
