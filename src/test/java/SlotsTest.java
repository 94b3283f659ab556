/** Promises 26 to 28: what is kept and gone on from, and the counts. */
public final class SlotsTest {
    private static final String TEXT = "FT0502T0614T0100W01W12X11G040G061G00-";

    private SlotsTest() {
    }

    public static void main(String[] args) {
        refusals();
        keepAndAgain();
        twoSlots();
        counts();
        Due.end();
    }

    private static void refusals() {
        TrapsWatchTraps x = Due.woodOf(TEXT);
        x.step(0, 5);
        String then = Due.all(x);
        for (int slot : new int[] {-1, 2, Integer.MIN_VALUE, Integer.MAX_VALUE}) {
            Due.due("keep(" + slot + ")", x.keep(slot), TrapsWatchTraps.UNKNOWN);
            Due.due("again(" + slot + ")", x.again(slot), TrapsWatchTraps.UNKNOWN);
        }
        Due.due("again(0)", x.again(0), TrapsWatchTraps.STATE);
        Due.due("again(1)", x.again(1), TrapsWatchTraps.STATE);
        Due.dueSame("what is refused changes nothing", Due.all(x), then);
        Due.due("ACTS stay", x.count(8), 1);
    }

    private static void keepAndAgain() {
        TrapsWatchTraps x = Due.woodOf(TEXT);
        x.step(0, 5);
        x.step(0, 4);
        x.look(1, 5);
        x.frost(true);
        x.seed(12);
        Due.due("keep(0)", x.keep(0), 3);
        Due.due("ACTS stay when they are kept", x.count(8), 3);
        String kept = Due.all(x);
        x.frost(false);
        Due.due("SPRINGS", x.step(0, 5), 7);
        Due.due("some are CAUGHT", x.count(4), 3);
        Due.due("keep(1)", x.keep(1), 1);
        x.free(1);
        x.seed(99);
        Due.due("again(0)", x.again(0), 3);
        Due.due("the row is empty", x.count(8), 0);
        Due.due("undo()", x.undo(), TrapsWatchTraps.STATE);
        Due.due("FROST", x.count(9), 1);
        Due.due("woken", x.trap(0, 5), 1);
        Due.due("all ARMED", x.count(3), 7);
        Due.due("KEEPERS KNOW", x.count(6), 7);
        Due.due("POACHERS KNOW", x.count(5), Due.bits(0, 2));
        Due.due("where it was", x.walker(0, 0), 4);
        Due.due("THE SEED is not kept", x.seed(12), 99);
        x.look(0, 3);
        x.look(0, 3);
        x.look(0, 3);
        Due.dueSame("as they were kept", Due.all(x), kept);
        Due.due("again(0) once more", x.again(0), 3);
        Due.due("again(1)", x.again(1), 1);
        Due.due("CAUGHT", x.walker(1, 3), 1);
        Due.due("no FROST", x.count(9), 0);
        Due.due("none is ARMED", x.count(3), 0);
    }

    private static void twoSlots() {
        TrapsWatchTraps x = Due.woodOf("FG000G050");
        x.keep(0);
        x.step(0, 1);
        x.keep(1);
        x.step(0, 2);
        Due.due("again(0)", x.again(0), 2);
        Due.due("where it was", x.walker(0, 0), 0);
        Due.due("again(1)", x.again(1), 2);
        Due.due("where it was then", x.walker(0, 0), 1);
        x.step(1, 6);
        Due.due("kept over", x.keep(0), 2);
        x.step(1, 7);
        x.again(0);
        Due.due("the newer one", x.walker(1, 0), 6);
        Due.due("a step behind it", x.step(1, 7), 0);
        Due.due("can be undone", x.undo(), 0);
        Due.due("and no more", x.undo(), TrapsWatchTraps.STATE);
        Due.due("new: keep(1)", new TrapsWatchTraps().keep(1), 0);
    }

    private static void counts() {
        TrapsWatchTraps x = Due.woodOf(TEXT);
        int[] want = {37, 3, 3, 7, 0, 5, 2, 1 << 11, 0, 0};
        for (int what = 0; what <= 9; what++) {
            Due.due("count(" + what + ")", x.count(what), want[what]);
        }
        Due.due("count(10)", x.count(10), TrapsWatchTraps.OUTSIDE);
        Due.due("count(-1)", x.count(-1), TrapsWatchTraps.OUTSIDE);
        x.step(1, 7);
        x.step(1, 6);
        Due.due("ARMED", x.count(3), 1);
        Due.due("CAUGHT", x.count(4), 2);
        Due.due("POACHERS KNOW", x.count(5), 7);
        Due.due("KEEPERS KNOW", x.count(6), 6);
        Due.due("ACTS", x.count(8), 2);
        x.frost(true);
        Due.due("FROST", x.count(9), 1);
        x.wipe();
        Due.due("bytes", x.count(0), 0);
        Due.due("TRAPS", x.count(1), 3);
    }
}
