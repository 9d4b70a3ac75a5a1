import java.lang.management.ManagementFactory;
import java.util.function.ObjIntConsumer;

/** What a run of 512 calls makes stays far below the room that all calls of a run live in. */
public final class RoomTest {
    /** 7.3 million fields and elements are more than that, at 4 bytes each. */
    private static final long MOST_BYTES = 4_000_000;
    private static final Check c = new Check();

    private RoomTest() {
    }

    public static void main(String[] args) {
        c.about("room");
        // Once unmeasured, so that what the machine makes at first use is not counted.
        new BeeYard().hive(1);
        holds("a full yard, each CHANGE taken back", RoomTest::fullYard);
        holds("a family that grows, asked for each time", RoomTest::growingFamily);
        holds("rows that are made anew", RoomTest::rows);
        holds("a row of FRAMES that come and go", RoomTest::framesTakenBack);
        c.done("RoomTest");
    }

    private static void holds(String run, ObjIntConsumer<BeeYard> call) {
        long before = bytes();
        BeeYard x = new BeeYard();
        for (int k = 0; k < 512; k++) {
            call.accept(x, k);
        }
        long made = bytes() - before;
        c.is(run + " makes " + made + " bytes: is that little", made <= MOST_BYTES ? 1 : 0, 1);
    }

    private static long bytes() {
        return ((com.sun.management.ThreadMXBean) ManagementFactory.getThreadMXBean()).getCurrentThreadAllocatedBytes();
    }

    private static void fullYard(BeeYard x, int k) {
        if (k < 40) {
            x.hive(20000);
        } else if (k < 64) {
            x.box((k - 40) / 8);
        } else if (k < 264) {
            x.frame(k - 64, 64);
        } else if (k < 464) {
            x.thing(k % 4);
        } else if (k % 2 == 0) {
            x.day(30);
        } else {
            x.undo();
        }
    }

    private static void growingFamily(BeeYard x, int k) {
        int t = k / 3;
        if (k % 3 == 0) {
            x.thing(0);
        } else if (k % 3 == 1) {
            x.line(t, (t - 1) / 2, -1);
        } else {
            x.kin(t, t / 2);
        }
    }

    private static void rows(BeeYard x, int k) {
        if (k < 8) {
            x.hive(1000);
        } else if (k < 16) {
            x.sample(k - 8, k, 100);
        } else if (k < 24) {
            x.due(k - 16, k, 1);
        } else if (k == 24) {
            x.box(0);
        } else if (k == 25) {
            x.frame(0, 64);
        } else if (k % 4 == 0) {
            x.share(0, 100);
        } else if (k % 4 == 1) {
            x.export(0);
        } else if (k % 4 == 2) {
            x.plan(1, 3);
        } else {
            x.copy(0, 1, 63);
        }
    }

    private static void framesTakenBack(BeeYard x, int k) {
        if (k == 0) {
            x.hive(0);
        } else if (k == 1) {
            x.box(0);
        } else if (k % 2 == 0) {
            x.frame(k % 12, 64);
        } else {
            x.undo();
        }
    }
}
