import com.sun.management.ThreadMXBean;
import java.lang.management.ManagementFactory;

/** All rows are made with the object: it is small, and its calls make no objects. */
public final class RoomTest {
    private static final ThreadMXBean ROOM = (ThreadMXBean) ManagementFactory.getThreadMXBean();
    private static final int BYTES_OF_AN_OBJECT = 250_000;
    private static final int CALLS = 500;
    /** The measuring itself may take a little. */
    private static final int BYTES_OF_ALL_CALLS = 4_000;

    public static void main(String[] args) {
        RewrittenWords x = Check.with("letters 3;weigh b 6;weigh c 9;rule cc>baa;rule bc>aa;rule abcb>bca;");
        Check.tell(x, 0, "abcbccbabccbacbb");
        Check.tell(x, 1, "abcbccbabccb");
        askAll(x);
        long before = bytes();
        for (int k = 0; k < CALLS / 25; k++) {
            askAll(x);
        }
        long taken = bytes() - before;
        Check.due("calls that make no objects: " + taken + " bytes", true, taken < BYTES_OF_ALL_CALLS);
        before = bytes();
        RewrittenWords y = new RewrittenWords();
        taken = bytes() - before;
        Check.due("a small object: " + taken + " bytes", true, taken < BYTES_OF_AN_OBJECT);
        Check.due("new", 0, y.count(1));
        Check.end("RoomTest");
    }

    private static long bytes() {
        return ROOM.getThreadAllocatedBytes(Thread.currentThread().getId());
    }

    private static void askAll(RewrittenWords x) {
        x.feed(1, 2, 3, 4, 5);
        x.tell(0, 1);
        x.feed(1, 2, 3, 4, 5);
        x.system(20);
        x.make(0, 0);
        x.go(1, 2);
        x.take(2, 0, 0);
        x.close(10);
        x.count(5);
        x.overlap(0, 4);
        x.word(0, 7);
        x.word(1, 9);
        x.meet(0, 1, 0);
        x.far(0, 1);
        x.letter(0, 2);
        x.say();
        x.said(3);
        x.head(0, true, 0);
        x.areKin(0, 1);
        x.free(8);
        x.areOne(0, 1);
        x.run(0, 2, 2);
        x.tidy();
        x.image();
        x.undo();
        x.undo();
        x.undo();
        x.undo();
        x.undo();
        x.back();
    }
}
