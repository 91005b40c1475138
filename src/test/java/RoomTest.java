import com.sun.management.ThreadMXBean;
import java.lang.management.ManagementFactory;

/** One room holds all that a run makes, so no call may make anything: only the constructor does. */
final class RoomTest {
    private static final ThreadMXBean THREADS = (ThreadMXBean) ManagementFactory.getThreadMXBean();

    public static void main(String[] args) {
        allActs(new ShelfNights());
        long id = Thread.currentThread().getId();
        ShelfNights x = new ShelfNights();
        THREADS.getThreadAllocatedBytes(id);
        long ahead = THREADS.getThreadAllocatedBytes(id);
        for (int i = 0; i < 8; i++) {
            allActs(x);
        }
        long made = THREADS.getThreadAllocatedBytes(id) - ahead;
        // What is measured costs a little itself.
        Due.is("bytes made by some 400 calls, beyond 4096", Math.max(0, made - 4096), 0);
        Due.end();
    }

    private static void allActs(ShelfNights x) {
        x.book(45);
        x.book(52);
        x.book(63);
        x.page(0, 0, 50);
        x.pageOf(0, 0);
        x.ofBook(0, 4);
        x.become(1, 52);
        x.as(0, 1);
        x.glass(2, 1);
        x.stand(0, 1);
        x.at(0);
        x.feed('o' | '+' << 8 | '(' << 16, 3);
        x.feed('l' | '>' << 8 | 'r' << 16 | (long) ')' << 24, 4);
        x.text(0);
        x.text(1);
        x.law(0, 1, 2, 3);
        x.nights(9);
        x.readers(9);
        x.then(200, 0, 0);
        x.when(0, 0, 0);
        x.still();
        x.round();
        x.place(0, 0, 1, 60);
        x.order(12, -1);
        x.apart(60, 0);
        x.sheet(0, 8, 6);
        x.put(0, 0, 1);
        x.stood(0, 0, 12, -1);
        x.wantedBy(0, 0, 99);
        x.seed(5);
        x.voice(2, 3, 1);
        x.trace(0);
        x.move(0, 0, 0, 1, 3);
        x.reads(0);
        x.judge(0, 0);
        x.image();
        x.restore();
        x.tell(1);
        x.check();
        x.count(2);
        x.told(9);
    }
}
