import com.sun.management.ThreadMXBean;
import java.lang.management.ManagementFactory;

/** What is made is small: an object's rows are made with it, and no call makes anything. */
public final class RoomTest {
    private static final Due due = new Due("RoomTest");
    private static final ThreadMXBean ROOM = (ThreadMXBean) ManagementFactory.getThreadMXBean();

    public static void main(String[] args) {
        for (int i = 0; i < 3; i++) {
            measure(i == 2);
        }
        due.end();
    }

    private static long used() {
        return ROOM.getCurrentThreadAllocatedBytes();
    }

    private static void measure(boolean counts) {
        long before = used();
        HumWire x = new HumWire();
        long made = used() - before;
        before = used();
        int answers = calls(x);
        long more = used() - before;
        if (counts) {
            due.is("an object takes under 20000 bytes, not " + made, made < 20000 ? 1 : 0, 1);
            due.is("calls take next to none, not " + more, more < 4000 ? 1 : 0, 1);
            due.is("answers", answers, 400);
        }
    }

    /** Four hundred calls, the dearest of them many times. */
    private static int calls(HumWire x) {
        int answers = 0;
        for (int i = 0; i < 10; i++) {
            int[] row = {x.wire(i % 6, 2, 100), x.told(0, 8), x.as(0, 0), x.turns(0, i % 6), x.set(0, 4, 100 * i),
                x.wind(i, 20), x.windAt(i), x.limit(30), x.deal(3, 24), x.seed(i), x.by(0, 9, 5), x.tick(0, 10),
                x.run(60), x.line(0, 1), x.day(0, 0), x.life(0, 99999), x.harp(0, 0), x.lumps(0, 0),
                x.blown(0, 100, 2), x.feed(0x62616e64, 0x20652b28, 0x732a3229), x.text(), x.textTold(0, 1),
                x.why(0), x.sheet(0, 0, 24), x.mark(0, 1, 7), x.heard(0), x.pour(0), x.reads(0, 0),
                x.copy(0, 0, 0, 3, 9), x.lay(0, 1, 0), x.ask(0, 0), x.lay(1, 2, 0), x.item(1, 3), x.lay(2, 3, 9),
                x.rest(2, 4), x.tell(3), x.keep(), x.check(0, 30), x.back(), x.count(1)};
            answers += row.length;
        }
        return answers;
    }
}
