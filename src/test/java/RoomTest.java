import com.sun.management.ThreadMXBean;
import java.lang.management.ManagementFactory;

/** All calls of one run live in one room: what an object takes, and that asking takes nothing more. */
public final class RoomTest {
    private static final ThreadMXBean THREADS = (ThreadMXBean) ManagementFactory.getThreadMXBean();
    private static final int ROUNDS = 500;

    private static long taken() {
        return THREADS.getThreadAllocatedBytes(Thread.currentThread().getId());
    }

    private static long askAll(AtTheDoor x) {
        long sum = x.set(0, 0, 11) + x.hear(1) + x.told(0, 5) + x.feed(99) + x.force(0) + x.weight(-1) + x.who();
        sum += x.odds(1, 0) + x.gain(3) + x.open() + x.peep(0, 0) + x.peep(1, 1) + x.tells() + x.guard(0) + x.home(3, 1);
        sum += x.cards(0) + x.runs() + x.judge(0) + x.fits(0) + x.laws(1) + x.drawn(5, 30) + x.often(5, 30, 1, 0);
        sum += x.image() + x.back() + x.count(7) + x.sheet(0, 1, 6) + x.cell(0, 1, 1) + x.copy(0, 0, 0, 2, 3);
        return sum + x.hears(0, 1, 0, 6) + x.taken(1, 0) + x.hush();
    }

    private static AtTheDoor door() {
        AtTheDoor x = new AtTheDoor();
        for (int i = 0; i < 7; i++) {
            x.caller(i % 6, i);
        }
        x.sheet(0, 0, 3);
        return x;
    }

    public static void main(String[] args) {
        AtTheDoor x = door();
        // The first round loads classes.
        long sum = askAll(x);
        long before = taken();
        for (int i = 0; i < ROUNDS; i++) {
            sum += askAll(x);
        }
        long asked = taken() - before;
        before = taken();
        AtTheDoor[] doors = new AtTheDoor[ROUNDS];
        for (int i = 0; i < ROUNDS; i++) {
            doors[i] = door();
        }
        long made = (taken() - before) / ROUNDS;
        System.out.println("asking took " + asked + " bytes in all, an object " + made + " (" + (sum + doors.length) + ")");
        if (asked > 4096 || made > 8192) {
            System.out.println("that is too much");
            System.exit(1);
        }
    }
}
