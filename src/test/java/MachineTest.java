import java.lang.management.ManagementFactory;
import java.util.Random;

/** No call may throw, whatever it is told, and a run stays within its room. */
public final class MachineTest {
    private static final Check check = new Check("MachineTest");
    private static final int[] EDGES = {
        Integer.MIN_VALUE, Integer.MIN_VALUE + 1, -1000, -3, -2, -1, 0, 1, 2, 3, 4, 5, 6, 7, 9, 10, 11, 12, 33, 34,
        39, 40, 95, 96, 99, 100, 199, 200, 400, 960, 961, 1000, 4095, 4096, 9999, 10000, 99999,
        Integer.MAX_VALUE - 1, Integer.MAX_VALUE};

    public static void main(String[] args) {
        for (int run = 0; run < 300; run++) {
            neverThrows(run);
        }
        room();
        check.end();
    }

    private static int edge(Random random) {
        return EDGES[random.nextInt(EDGES.length)];
    }

    private static int near(Random random) {
        return random.nextInt(4) == 0 ? edge(random) : random.nextInt(6);
    }

    private static void neverThrows(int run) {
        Random random = new Random(run);
        SilenceForMoney x = new SilenceForMoney();
        boolean crowded = random.nextBoolean();
        for (int i = 0; crowded && i < 12; i++) {
            x.one(i % 3, i % 6, 50, 300, i % 5);
            x.debt(i, i - 1, 1 + i);
            x.set(0, 0);
        }
        boolean threw = false;
        for (int call = 0; call < 470 && !threw; call++) {
            try {
                call(x, random.nextInt(31), random);
            } catch (RuntimeException e) {
                threw = true;
                System.out.println("run " + run + " call " + call + ": " + e);
            }
        }
        check.due("run " + run + " threw", threw, false);
    }

    private static void call(SilenceForMoney x, int which, Random r) {
        switch (which) {
            case 0: x.state(edge(r)); break;
            case 1: x.one(near(r), near(r), near(r), near(r), near(r)); break;
            case 2: x.tell(near(r), near(r), edge(r)); break;
            case 3: x.wall(near(r), near(r), edge(r)); break;
            case 4: x.set(edge(r), edge(r)); break;
            case 5: x.debt(near(r), near(r), edge(r)); break;
            case 6: x.helpers(near(r), edge(r)); break;
            case 7: x.of(near(r), near(r)); break;
            case 8: x.feed(r.nextInt(), r.nextInt(), r.nextInt(), r.nextInt(), edge(r)); break;
            case 9: x.end(edge(r)); break;
            case 10: x.text(near(r)); break;
            case 11: x.fault(edge(r)); break;
            case 12: x.does(edge(r)); break;
            case 13: x.word(near(r), near(r), edge(r), edge(r), r.nextBoolean(), r.nextBoolean()); break;
            case 14: x.quarters(edge(r)); break;
            case 15: x.noise(edge(r), near(r)); break;
            case 16: x.lend(near(r), near(r), edge(r)); break;
            case 17: x.split(near(r), near(r)); break;
            case 18: x.inherit(near(r), near(r)); break;
            case 19: x.sell(near(r), near(r), edge(r)); break;
            case 20: x.undo(); break;
            case 21: x.soonest(near(r)); break;
            case 22: x.whom(near(r), edge(r), edge(r), edge(r)); break;
            case 23: x.quiet(near(r), near(r)); break;
            case 24: x.thought(near(r), near(r), near(r)); break;
            case 25: x.person(edge(r), edge(r)); break;
            case 26: x.book(edge(r), near(r)); break;
            case 27: x.image(r.nextBoolean()); break;
            case 28: x.look(edge(r)); break;
            default: rule(x, r); break;
        }
    }

    /** A sound text now and then, so that there is something to do. */
    private static void rule(SilenceForMoney x, Random r) {
        x.end(0);
        int k = r.nextInt(6);
        if (k < 2) {
            Check.text(x, k, "word when loud*loud/7>hour;");
        } else {
            Check.text(x, k, "talk 40 when owes>owed;work 9 when with*day>3;");
        }
    }

    private static long allocated() {
        java.lang.management.ThreadMXBean bean = ManagementFactory.getThreadMXBean();
        return bean instanceof com.sun.management.ThreadMXBean b ? b.getThreadAllocatedBytes(Thread.currentThread().getId()) : 0;
    }

    /** The dearest calls make nothing new, and what others make is small. */
    private static void room() {
        SilenceForMoney x = new SilenceForMoney();
        for (int i = 0; i < 12; i++) {
            x.one(i % 3, i % 6, 50, 300, i % 5);
        }
        for (int i = 0; i < 40; i++) {
            x.debt(i % 12, (i + 1) % 12, 9);
        }
        x.set(0, 2);
        allocated();
        long before = allocated();
        long made = allocated() - before;
        for (int i = 0; i < 100; i++) {
            x.thought(3, -1, 0);
            x.quiet(2, 0);
            x.quarters(9);
            x.soonest(0);
            x.whom(0, 1, 2, 3);
            x.does(0);
        }
        made = allocated() - before - made;
        check.due("thoughts make nothing (" + made + " bytes)", made < 2000, true);
        before = allocated();
        SilenceForMoney y = new SilenceForMoney();
        made = allocated() - before;
        check.due("an object is small (" + made + " bytes)", made < 40000, true);
        check.due("and new", y.look(0), 0);
        before = allocated();
        for (int i = 0; i < 250; i++) {
            x.inherit(i % 12, (i + 1) % 12);
            x.image(true);
        }
        made = allocated() - before;
        check.due("bargains and images are small (" + made + " bytes)", made < 600000, true);
    }
}
