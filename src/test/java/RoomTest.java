import com.sun.management.ThreadMXBean;
import java.lang.management.ManagementFactory;

/** All calls of a run share one room: a new object is small, and no call makes anything. */
final class RoomTest {
    private static final int RUNS = 40;

    private static long made() {
        return ((ThreadMXBean) ManagementFactory.getThreadMXBean()).getThreadAllocatedBytes(
            Thread.currentThread().getId());
    }

    private static SelfSorting filled() {
        SelfSorting x = new SelfSorting();
        x.wide(0, 99);
        for (int i = 0; i < 10; i++) {
            x.book(i * 7 % 10, i * 3 % 10, 1 + i * 4 % 9, i, i % 3);
            x.put(i, i < 6 ? 0 : 1, 0);
        }
        x.by(Calls.read(x, "law 0 right=1 and hue>ohue;law 1 right=1 and ocreed<=creed;law 2 book+other=7;swell hue/3;"));
        return x;
    }

    private static long allCalls(SelfSorting x, int i) {
        long sum = x.need(1 + i % 2) ? 1 : 0;
        sum += x.feed(0x7765743b, 0x20202020, i, 0, 0) + x.end(i % 20) + x.text() + x.fault(0) + x.end(0);
        sum += x.night(1 + i % 99) + x.nudge(0, i % 5) + x.take(i % 10) + x.put(i % 10, i % 3, 0);
        sum += x.wet(i % 2 == 0);
        sum += x.played(0) + x.year(i, 40) + x.undo() + x.at(0, 0) + x.of(1, 7) + x.shelf(0, 1) + x.written(-1, 0);
        sum += x.rest(0) + x.round(0, true) + x.calm(63, -1, 0) + x.basin(63, 0) + x.never(63) + x.trouble();
        sum += x.rank(63, 0) + x.nudges(0, 1, 0, 2, 1) + x.game(0, 1, 5, true) + x.catalogue(1, 99, 0, true);
        sum += x.theft(1) + x.cheapest(0) + x.dust(1, 2, true, true) + x.laws(1) + x.tells(1) + x.fits(0);
        return sum + x.image() + x.back() + x.about(7);
    }

    public static void main(String[] args) {
        Calls calls = new Calls();
        long sum = 0;
        for (int warm = 0; warm < 3; warm++) {
            SelfSorting x = filled();
            for (int i = 0; i < RUNS; i++) {
                sum += allCalls(x, i);
            }
        }
        long before = made();
        SelfSorting x = new SelfSorting();
        long object = made() - before;
        x = filled();
        before = made();
        for (int i = 0; i < RUNS; i++) {
            sum += allCalls(x, i);
        }
        long byCalls = made() - before;
        System.out.println("RoomTest: an object has " + object + " bytes, calls made " + byCalls + " (" + sum % 10 + ")");
        calls.due("an object is small", object < 200000, true);
        calls.due("calls make nothing", byCalls < 20000, true);
        calls.finish("RoomTest");
    }
}
