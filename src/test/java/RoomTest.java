import java.lang.management.ManagementFactory;

/** All calls of one run live in one room: a new object is small, and no call makes anything more. */
public final class RoomTest {
    private static final int OBJECTS = 200;
    private static final com.sun.management.ThreadMXBean BEAN =
        (com.sun.management.ThreadMXBean) ManagementFactory.getThreadMXBean();

    public static void main(String[] args) {
        ThinBodies[] made = new ThinBodies[OBJECTS];
        new ThinBodies();
        long before = allocated();
        for (int i = 0; i < OBJECTS; i++) {
            made[i] = new ThinBodies();
        }
        long each = (allocated() - before) / OBJECTS;
        Checks.due("a new object takes less than 64 KiB: " + each, each < 65536 ? 1 : 0, 1);
        ThinBodies x = Checks.told("letters 4;box 0 0 7;box 1 0 7;box 2 0 7;box 3 0 7;comb 1 2 3 4 bound 1 within 5");
        long sum = callAll(x);
        before = allocated();
        for (int i = 0; i < 5; i++) {
            sum += callAll(x);
        }
        long more = allocated() - before;
        Checks.due("calls make nothing: " + more + " (" + sum + ")", more < 4096 ? 1 : 0, 1);
        Checks.end();
    }

    private static long allocated() {
        return BEAN.getThreadAllocatedBytes(Thread.currentThread().getId());
    }

    private static long callAll(ThinBodies x) {
        long sum = x.letters(4) + x.box(0, 0, 7) + x.boxOf(0, 0) + x.row(0, 0, 1) + x.of(0, 7) + x.change(0, 3, 1);
        sum += x.as(0, 0) + x.drop() + x.many() + x.point(3, 0) + x.sheet(0, 8, 40) + x.lays(0, 1) + x.holds(0);
        sum += x.best(3, 0) + x.thin(0) + x.mean(0, 0) + x.round(5) + x.tree(0) + x.leaf(0, 1) + x.side(0, 0, 0);
        sum += x.where(0) + x.judge(0) + x.needs() + x.without() + x.kind(0) + x.boundFor(0) + x.base(0, 0, 1);
        sum += x.baseOf(0, 0) + x.mix(0, 1, 0) + x.swap(0, 1) + x.det() + x.form(0, 0) + x.shortest(0) + x.common();
        sum += x.lies(0) + x.feed('z', 1) + x.wipe();
        Checks.feed(x, "row 1 1 1 1 bound 3 within 3");
        sum += x.text() + x.drop() + x.write(0, 0, 1) + x.copy(0, 0, 0, 1, 3) + x.image() + x.undo() + x.tear();
        return sum + x.count(0) + x.status(-1) + x.status(9);
    }
}
