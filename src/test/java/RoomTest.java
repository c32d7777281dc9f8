import com.sun.management.ThreadMXBean;
import java.lang.management.ManagementFactory;

/** All calls of a run live in one room: an object takes little of it, and its calls take nothing. */
public final class RoomTest {
    private static final ThreadMXBean THREADS = (ThreadMXBean) ManagementFactory.getThreadMXBean();
    private static int sink = 0;

    public static void main(String[] args) {
        String men = "cell moody 2 temper 5 left 4 right 4 loyal;".repeat(9);
        String text = "prison cells 9 hours 24 ring;" + men + "quarrel 0; quarrel 1; quarrel 2; quarrel 3; quarrel 4;"
                + "quarrel 5; quarrel 6; quarrel 7; quarrel 8; soup 1 gives left 1 in 2; plan 3 4;";
        // What is made first loads classes too, which are no part of it.
        ConsentDoors warm = new ConsentDoors();
        taken();
        long before = taken();
        ConsentDoors one = new ConsentDoors();
        long made = taken() - before;
        Check.holds("an object takes " + made + " bytes, at most 100,000", made < 100000 && one.count(0) == 0);
        Check.tell(warm, text);
        call(warm);
        ConsentDoors x = new ConsentDoors();
        Check.feed(x, text);
        before = taken();
        int lines = x.prison();
        call(x);
        long all = taken() - before;
        Check.due("prison()", lines, 21);
        Check.holds("its calls take " + all + " bytes, at most 1,000 (which taken() itself may take)", all <= 1000);
        Check.finish();
    }

    private static long taken() {
        return THREADS.getCurrentThreadAllocatedBytes();
    }

    private static void call(ConsentDoors x) {
        x.row(0, 3, 60);
        for (int cell = 0; cell < 9; cell++) {
            sink += x.harm(cell) + x.loyalty(cell) + x.mends(cell, 0) + x.when(cell) + x.soup(cell, 0, 3, 4);
            sink += x.corridor(cell, 3) + x.friends(3, cell) + x.wanted(cell) + x.others(cell) + x.chance(5, 20, 30, cell);
            sink += x.write(0, cell, cell) + x.temper(cell, 3) + x.vow(cell, 0) + x.quarrel(cell, 0) + x.longest(cell, 1);
        }
        for (int hour = 0; hour < 24; hour++) {
            sink += x.best(hour) + x.most(hour) + x.sets(hour) + x.doors(hour) + x.why(hour) + x.because(hour, 0);
        }
        sink += x.courted() + x.gift(4) + x.astray() + x.other(3) + x.refused(0) + x.fewest(0) + x.sure(0, 0) + x.forged(0);
        sink += x.drawn(1, 50, 1) + x.keep(1) + x.back(1) + x.paste(0, 1, 0, 2, 30) + x.busy(0) + x.idle() + x.together(511);
    }
}
