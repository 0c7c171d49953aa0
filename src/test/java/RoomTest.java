import com.sun.management.ThreadMXBean;
import java.lang.management.ManagementFactory;

/** The room: calls make no objects, however dear they are; all rows are made by the constructor. */
public final class RoomTest {
    private static final ThreadMXBean THREADS = (ThreadMXBean) ManagementFactory.getThreadMXBean();
    // What the measuring itself may take, far below one int of each of 512 calls.
    private static final long LITTLE = 512;

    public static void main(String[] args) {
        if (!THREADS.isThreadAllocatedMemorySupported()) {
            System.out.println("this Java machine tells no allocation");
            return;
        }
        ofCalls();
        ofCalls();
        Due.is("some 500 calls make nothing", ofCalls() <= LITTLE ? 1 : 0, 1);
        ofNew();
        Due.is("a new object takes little room", ofNew() <= 20_000 ? 1 : 0, 1);
        Due.end();
    }

    private static long ofNew() {
        long before = THREADS.getCurrentThreadAllocatedBytes();
        new StreetTillTen();
        return THREADS.getCurrentThreadAllocatedBytes() - before;
    }

    private static long ofCalls() {
        StreetTillTen x = Due.street(0, 1, 0, 1, 0, 1, 0, 1);
        String text = "meets strength<50 and not(number<other)or 3*seats;fades 1;sounds 2;";
        x.sheet(1, 2, 40);
        long before = THREADS.getCurrentThreadAllocatedBytes();
        for (int i = 0; i < text.length(); i++) {
            x.feed(text.charAt(i));
        }
        x.text();
        x.force(1);
        long sum = 0;
        for (int i = 0; i < 17; i++) {
            sum += x.split(2, 0) + x.change(20, 1) + x.best(i % 8, 20, 0) + x.takes(28) + x.run(20, 4);
            sum += x.chance(i, 20, 9, 0) + x.drawn(i, 20) + x.missed(0) + x.match(1) + x.film(0, i % 8);
            for (int what = 0; what < 7; what++) {
                sum += x.tells(0, i % 8, what);
            }
            sum += x.image() + x.back() + x.feast() + x.year() + x.sheet(2, 1, 40) + x.copy(1, 0, 1, 1, 9) + x.houses(1, 2, 0, 8);
        }
        long made = THREADS.getCurrentThreadAllocatedBytes() - before;
        return sum == 0 ? Long.MAX_VALUE : made;
    }
}
