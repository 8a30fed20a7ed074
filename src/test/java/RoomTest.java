import java.lang.management.ManagementFactory;

/** All calls of a run live in one room: a new object is small, and no call makes another one. */
public final class RoomTest {
    private static final int ROUNDS = 2000;
    private static final Check CHECK = new Check();

    public static void main(String[] args) {
        com.sun.management.ThreadMXBean room = (com.sun.management.ThreadMXBean) ManagementFactory.getThreadMXBean();
        GreenJars x = Check.shelf("SJ05319J15309J25209J35109J45029J55039");
        for (int k = 0; k < 200; k++) {
            allCalls(x);
        }
        long before = room.getCurrentThreadAllocatedBytes();
        for (int k = 0; k < ROUNDS; k++) {
            allCalls(x);
        }
        long calls = room.getCurrentThreadAllocatedBytes() - before;
        // Looking at the room may itself take some, but far less than one object a round.
        CHECK.due("bytes of " + ROUNDS + " rounds of calls: " + calls, 1, calls < ROUNDS ? 1 : 0);
        before = room.getCurrentThreadAllocatedBytes();
        GreenJars fresh = new GreenJars();
        long made = room.getCurrentThreadAllocatedBytes() - before;
        CHECK.due("bytes of a new object: " + made, 1, made < 10000 && fresh.about(0) == 0 ? 1 : 0);
        CHECK.end("RoomTest");
    }

    private static void allCalls(GreenJars x) {
        x.write('S');
        x.wipe();
        x.fault();
        x.sale();
        for (int what = 0; what <= 9; what++) {
            x.about(what);
            x.jar(1, what);
            x.at(what);
        }
        x.week();
        x.shake();
        x.set(0, 6);
        x.pour(1, 2);
        x.open(5);
        x.undo();
        x.undo();
        x.undo();
        x.later(0, 20, 1);
        x.becomes(0, 9);
        x.fails(1);
        x.stuff(0, 12, 3, 0);
        x.row(true);
        x.judge(4, 100203331504L);
        x.share(3, true);
        x.taste(3, 4);
        x.kept(1);
        x.untaste();
        x.rests(0, 1, 1);
        x.papers(1, 3, true);
        x.years(30);
        x.seed(x.seed(0));
        x.keep(0);
        x.again(0);
    }
}
