import com.sun.management.ThreadMXBean;
import java.lang.management.ManagementFactory;

/** All calls of one run live in one room: what the dearest runs make must stay far below it. */
public final class RoomTest {
    /** 7.3 million fields and elements of 4 bytes each, and 600,000 objects with a head of 16. */
    private static final long MOST_BYTES = 7_300_000L * 4 + 600_000L * 16;
    private static final ThreadMXBean THREADS = (ThreadMXBean) ManagementFactory.getThreadMXBean();

    public static void main(String[] args) {
        Check check = new Check();
        fullHouse();
        long before = made();
        fullHouse();
        within(check, "a house full of runs", made() - before);
        before = made();
        manyChanges();
        within(check, "much change", made() - before);
        before = made();
        backAndForth();
        within(check, "back and forth", made() - before);
        check.end();
    }

    private static void within(Check check, String what, long bytes) {
        System.out.println(what + ": " + bytes + " bytes");
        check.due(what + " is within the room", bytes <= MOST_BYTES ? 1 : 0, 1);
    }

    private static long made() {
        return THREADS.getThreadAllocatedBytes(Thread.currentThread().getId());
    }

    private static WashHouse fullHouse() {
        WashHouse house = new WashHouse();
        house.bound(600, 200, 200);
        house.program(0, 30);
        for (int i = 0; i < 30; i++) {
            house.step(0, i, i % 2, 200);
        }
        for (int place = 0; place < 60; place++) {
            house.machine(place, 0, 5, 0);
            house.load(0, 1, 0);
            house.put(place, place);
            house.pay(place);
            house.start(place, 0);
        }
        for (int calls = 332; calls < 512; calls++) {
            house.minute(60);
        }
        return house;
    }

    private static void manyChanges() {
        WashHouse house = new WashHouse();
        house.machine(0, 0, 5, 1);
        for (int k = 0; k < 12; k++) {
            house.tube(k, k + 1, 1000);
        }
        // A run without steps uses up what was paid, so that it can be paid again.
        house.program(0, 0);
        house.load(0, 1, 0);
        house.put(0, 0);
        for (int calls = 16; calls < 512; calls += 4) {
            house.tube(11, 501, 10);
            house.coin(0, 11, 1);
            house.pay(0);
            house.start(0, 0);
        }
    }

    private static void backAndForth() {
        WashHouse house = new WashHouse();
        for (int calls = 0; calls < 512; calls += 4) {
            house.program(calls % 40, 30);
            house.minute(60);
            house.takeOut(calls % 40);
            house.back(59);
        }
    }
}
