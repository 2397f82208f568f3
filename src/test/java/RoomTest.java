import com.sun.management.ThreadMXBean;
import java.lang.management.ManagementFactory;
import java.util.function.IntSupplier;

/** The room of one run: what a new object takes, and that calls make nothing that is kept. */
final class RoomTest {
    private static final ThreadMXBean THREADS = (ThreadMXBean) ManagementFactory.getThreadMXBean();

    public static void main(String[] args) {
        Tester t = new Tester("room");
        for (int i = 0; i < 64; i++) {
            t.add("a b c d e f g h i j k l a m n o p q r s t u v w x y z ".substring(i % 20, 44));
        }
        t.ask("\"a m\"\"b c d e\"\"f g h i\"\"j k l o\"\"p q r s\" ~9");
        IntSupplier[] dearest = {() -> t.x.early(10, 2), () -> t.x.depth(0, 0), () -> t.x.swift(10, 0), t.x::thrift,
            t.x::answers, () -> t.x.without(10, 0), () -> t.x.told(5), () -> t.x.nearest(3), () -> t.x.window(2, 0),
            () -> t.x.inside(0, 0), () -> t.x.common(9), () -> t.x.feed(0, 0, 0, 0, 0), () -> t.x.add(20),
            () -> t.x.ask(0), () -> t.x.repack(3), () -> t.x.blockOf(1, 2)};
        for (int round = 0; round < 3; round++) {
            for (int i = 0; i < dearest.length; i++) {
                long before = bytes();
                for (int n = 0; n < 20; n++) {
                    answer(dearest[i]);
                }
                long each = (bytes() - before) / 20;
                t.due("call " + i + " takes " + each + " bytes", round > 0 && each > 8000 ? 1 : 0, 0);
            }
        }
        long before = bytes();
        new EarlyAnswers();
        long object = bytes() - before;
        t.due("a new object takes " + object + " bytes", object > 400000 ? 1 : 0, 0);
        Tester.end("room");
    }

    private static void answer(IntSupplier call) {
        try {
            call.getAsInt();
        } catch (IllegalArgumentException e) {
            // a tape that is empty, 64 numbers given: refused calls are counted, too
        }
    }

    private static long bytes() {
        return THREADS.getThreadAllocatedBytes(Thread.currentThread().getId());
    }
}
