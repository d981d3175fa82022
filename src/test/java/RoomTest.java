import java.lang.management.ManagementFactory;
import java.util.Random;

/** Rules 7 and 12 of the language: no call throws, whatever it is asked, and few objects are made. */
public final class RoomTest {
    private static final int[] ODD = {Integer.MIN_VALUE, Integer.MAX_VALUE, -1000000, -3, -2, -1, 0, 1, 2, 3, 29, 30, 60, 61, 100, 199, 200, 999, 1000, 1001};
    private static final long MOST_BYTES_OF_A_RUN = 400000;
    private static final Due due = new Due("RoomTest");

    public static void main(String[] args) {
        anyArguments();
        dearestCalls();
        fiveHundredTwelveCalls();
        fewObjects();
        due.end();
    }

    private static void anyArguments() {
        for (int seed = 0; seed < 200; seed++) {
            Random random = new Random(seed);
            ShelfCart x = seed % 2 == 0 ? new ShelfCart() : crowded();
            for (int k = 0; k < 2000; k++) {
                ask(x, random.nextInt(39), random);
            }
            due.yes("seed " + seed + " ended", x.count(0) >= 0);
        }
    }

    private static int odd(Random random) {
        return random.nextInt(3) == 0 ? random.nextInt() : random.nextInt(3) == 0 ? random.nextInt(16) : ODD[random.nextInt(ODD.length)];
    }

    private static void ask(ShelfCart x, int which, Random random) {
        int a = odd(random);
        int b = odd(random);
        int c = odd(random);
        int d = odd(random);
        boolean yes = random.nextBoolean();
        switch (which) {
            case 0: x.feed(a, b, c, d, a); break;
            case 1: x.mark(a); break;
            case 2: x.fault(); break;
            case 3: x.count(a); break;
            case 4: x.part(a, b, c); break;
            case 5: x.write(a); break;
            case 6: x.out(a); break;
            case 7: x.way(a); break;
            case 8: x.sorts(a, b); break;
            case 9: x.shelf(a, yes); break;
            case 10: x.book(a, b, c, d); break;
            case 11: x.stand(a, b, c); break;
            case 12: x.dummy(a, b, c); break;
            case 13: x.off(a); break;
            case 14: x.tell(a, b); break;
            case 15: x.place(a, b); break;
            case 16: x.room(a, b); break;
            case 17: x.run(a, yes); break;
            case 18: x.seen(a); break;
            case 19: x.read(a); break;
            default: askMore(x, which, a, b, c, d, yes); break;
        }
    }

    private static void askMore(ShelfCart x, int which, int a, int b, int c, int d, boolean yes) {
        switch (which) {
            case 20: x.order(yes, a); break;
            case 21: x.fewest(); break;
            case 22: x.move(); break;
            case 23: x.where(a); break;
            case 24: x.between(a, b); break;
            case 25: x.done(); break;
            case 26: x.list(a, b); break;
            case 27: x.forget(a); break;
            case 28: x.listed(a); break;
            case 29: x.found(a, b, c); break;
            case 30: x.check(a); break;
            case 31: x.grow(a, b, c); break;
            case 32: x.full(); break;
            case 33: x.shift(a, b, c, d); break;
            case 34: x.plan(a); break;
            case 35: x.lift(); break;
            case 36: x.image(a); break;
            case 37: x.again(a); break;
            default: x.feed('A' << 24, 0, 0, 0, 0); break;
        }
    }

    /** All that the document lets there be at once. */
    private static ShelfCart crowded() {
        ShelfCart x = new ShelfCart();
        for (int k = 0; k < 16; k++) {
            x.shelf(2000, k == 15);
        }
        for (int k = 0; k < 200; k++) {
            Due.mark(x, "QA" + k + ".123456 .A12345 y2000 .B54321 v" + (k + 1) + " c1");
            x.book(k < 30 ? 1 : k % 4 == 1 ? 0 : k % 4, k, 1 + k % 9, 999);
            x.list(k, k % 16);
        }
        for (int k = 0; k < 200; k++) {
            x.stand(k, k < 30 ? 15 : k % 15, k < 30 ? k : (199 - k) / 15);
        }
        for (int k = 0; k < 30; k++) {
            x.dummy(k, k % 15, 20 + k / 15);
        }
        for (int k = 0; k < 12; k++) {
            x.grow(k, 199 - k, 1000);
        }
        x.run(0, true);
        for (int k = 59; k >= 0; k--) {
            x.seen(k * 3);
        }
        return x;
    }

    private static void dearestCalls() {
        ShelfCart x = crowded();
        due.is("marks", x.count(0), 200);
        due.is("books", x.count(2), 200);
        due.is("read", x.count(5), 60);
        due.is("growths", x.count(4), 12);
        due.yes("a PLAN of 200", x.shift(0, 14, 0, 100) >= 0);
        due.is("all of them", x.plan(14), 200);
        due.yes("lift", x.lift());
        due.is("full", x.full() % 100 >= 0 ? 1 : 0, 1);
    }

    private static void fiveHundredTwelveCalls() {
        due.sentence("An object is used for at most 512 calls after it has been made;");
        ShelfCart x = new ShelfCart();
        for (int k = 0; k < 200; k++) {
            x.feed('A' << 24 | '1' + k % 9 << 16 | '0' + k / 9 % 10 << 8 | '0' + k / 90, 0, 0, 0, 0);
            due.is("the MARK " + k, x.mark(4), k);
        }
        for (int k = 400; k < 510; k++) {
            due.is("call " + k, x.part(199, 1, 1), 222);
        }
        due.yes("the 511th call", x.image(3));
        due.yes("the 512th call", x.again(3));
    }

    /** What 512 calls allocate, of the calls that have the most to do. */
    private static void fewObjects() {
        com.sun.management.ThreadMXBean threads = (com.sun.management.ThreadMXBean) ManagementFactory.getThreadMXBean();
        long thread = Thread.currentThread().getId();
        ShelfCart warm = crowded();
        dear(warm, 0);
        long before = threads.getThreadAllocatedBytes(thread);
        ShelfCart x = new ShelfCart();
        long ofOneObject = threads.getThreadAllocatedBytes(thread) - before;
        x = crowded();
        before = threads.getThreadAllocatedBytes(thread);
        for (int k = 0; k < 512; k++) {
            dear(x, k);
        }
        long ofCalls = threads.getThreadAllocatedBytes(thread) - before;
        System.out.println("RoomTest: a new object takes " + ofOneObject + " bytes, 512 calls " + ofCalls);
        due.yes("few bytes in all", ofOneObject + ofCalls < MOST_BYTES_OF_A_RUN);
    }

    private static void dear(ShelfCart x, int k) {
        switch (k % 12) {
            case 0: x.image(k / 12 % 4); break;
            case 1: x.again(k / 12 % 4); break;
            case 2: x.shift(0, 14, 0, 100); break;
            case 3: x.lift(); break;
            case 4: x.full(); break;
            case 5: x.order(false, 30); break;
            case 6: x.move(); break;
            case 7: x.found(0, 0, 100); break;
            case 8: x.write(199); break;
            case 9: x.feed('A' << 24, 0, 0, 0, 0); break;
            case 10: x.mark(1); break;
            default: x.room(3, 60); break;
        }
    }
}
