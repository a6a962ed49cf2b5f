import com.sun.management.ThreadMXBean;
import java.lang.management.ManagementFactory;

/**
 * The room that 512 calls take, in bytes. A run has room for 600,000 objects and 7.3 million fields and elements; an
 * object takes at least 16 bytes and nearly each element at least four, so that 9 million bytes are within both.
 */
public final class RoomTest {
    private static final long MOST_BYTES = 9_000_000L;
    private static final ThreadMXBean BEAN = (ThreadMXBean) ManagementFactory.getThreadMXBean();
    private static boolean wrong = false;

    private static long taken() {
        return BEAN.getThreadAllocatedBytes(Thread.currentThread().getId());
    }

    private static void within(String what, long start) {
        long bytes = taken() - start;
        System.out.println(what + ": " + bytes + " bytes");
        if (bytes > MOST_BYTES) {
            System.out.println("that is too much room");
            wrong = true;
        }
    }

    private static void feed(PlaceRegister x, String text) {
        for (int i = 0; i < text.length(); i++) {
            x.feed(1, text.charAt(i), 0, 0, 0, 0);
        }
    }

    private static PlaceRegister filled() {
        PlaceRegister x = new PlaceRegister();
        feed(x, "f0>0@0:abcdefgh;f1>0@0:b;f1>0@0:c;f2>1@0:d");
        x.run();
        for (int p = 4; p < 20; p++) {
            feed(x, "abcdefgh");
            x.split(3, 0);
        }
        return x;
    }

    public static void main(String[] args) {
        taken();
        long start = taken();
        for (int i = 0; i < 512; i++) {
            new PlaceRegister();
        }
        within("512 new objects", start);
        start = taken();
        PlaceRegister x = filled();
        for (int i = 0; i < 400; i++) {
            x.move(3, 1 + (i & 1), i);
        }
        within("many moves", start);
        x = filled();
        for (int i = 0; i < 120; i++) {
            x.filter(0, i);
            x.drop(0);
        }
        start = taken();
        for (int i = 0; i < 256; i++) {
            x.image();
            x.undo();
        }
        within("many snapshots", start);
        start = taken();
        for (int i = 0; i < 256; i++) {
            x.filter(0, i);
            x.back();
        }
        within("many changes undone", start);
        x = filled();
        start = taken();
        for (int i = 0; i < 512; i++) {
            x.write(3);
            x.on(3, i, 10);
            x.account(i, 7);
            x.account(i, 8);
            x.changed(0, i);
            x.longest(3, 0);
            x.again(3, i);
            x.fits(0, i);
        }
        within("many questions", start);
        start = taken();
        for (int i = 0; i < 512; i++) {
            x.feed(5, 'a', 'b', 'c', 'd', 'e');
            x.lookup(0, 3);
        }
        within("many lookups", start);
        start = taken();
        for (int i = 0; i < 512; i++) {
            feed(x, "c9@1;c9@1;c9@1;c9@1;c9@1;c9@1;c9@1;c9@1;c9@1;c9@1;c9@1;c9@1;c9@1;c9@1;c9@1;c9@1");
            x.run();
        }
        within("many refused texts", start);
        if (wrong) {
            System.exit(1);
        }
        System.out.println("all runs are within their room");
    }
}
