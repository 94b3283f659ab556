/** Promises 19 to 21: the fewest safe steps, the way they go, where a look finds most. */
public final class WaysTest {
    private WaysTest() {
    }

    public static void main(String[] args) {
        refusals();
        open();
        known();
        shut();
        theWay();
        theWayAlone();
        toLook();
        Due.end();
    }

    private static void refusals() {
        TrapsWatchTraps x = Due.woodOf("FT0114G000G051");
        int unknown = TrapsWatchTraps.UNKNOWN;
        Due.due("safe(2, 0)", x.safe(2, 0), unknown);
        Due.due("safe(-1, 0)", x.safe(-1, 0), unknown);
        Due.due("safe(0, 12)", x.safe(0, 12), unknown);
        Due.due("safe(0, -1)", x.safe(0, -1), unknown);
        Due.due("safeAt(2, 0, 0)", x.safeAt(2, 0, 0), unknown);
        Due.due("safeAt(0, 12, 0)", x.safeAt(0, 12, 0), unknown);
        Due.due("safeAt(0, -1, 0)", x.safeAt(0, -1, 0), unknown);
        x.step(0, 1);
        Due.due("safe of a CAUGHT one", x.safe(0, 1), TrapsWatchTraps.STATE);
        Due.due("safeAt of a CAUGHT one", x.safeAt(0, 1, 0), TrapsWatchTraps.STATE);
        Due.due("UNKNOWN ahead of STATE", x.safe(0, 12), unknown);
        Due.due("UNKNOWN ahead of STATE", x.safeAt(0, 12, 0), unknown);
    }

    private static void open() {
        TrapsWatchTraps x = Due.woodOf("FG000G05-G111");
        String then = Due.all(x);
        for (int w = 0; w < 3; w++) {
            int from = x.walker(w, 0);
            for (int c = 0; c < 12; c++) {
                int steps = Math.abs(from / 4 - c / 4) + Math.abs(from % 4 - c % 4);
                Due.due("safe(" + w + ", " + c + ")", x.safe(w, c), steps);
                Due.due("the last of the way", x.safeAt(w, c, steps - 1), steps == 0 ? TrapsWatchTraps.NONE : c);
                Due.due("behind the last", x.safeAt(w, c, steps), TrapsWatchTraps.NONE);
                Due.due("ahead of the first", x.safeAt(w, c, -1), TrapsWatchTraps.NONE);
                Due.due("far behind", x.safeAt(w, c, Integer.MAX_VALUE), TrapsWatchTraps.NONE);
            }
        }
        Due.dueSame("nothing changes", Due.all(x), then);
    }

    private static void known() {
        TrapsWatchTraps x = Due.woodOf("FT0100T0514G000G001G00-");
        Due.due("POACHERS shun their own", x.safe(0, 2), 4);
        Due.due("not to it, either", x.safe(0, 1), TrapsWatchTraps.NONE);
        Due.due("KEEPERS do not KNOW it", x.safe(1, 2), 2);
        Due.due("KEEPERS shun theirs", x.safe(1, 5), TrapsWatchTraps.NONE);
        Due.due("a BEAST KNOWS none", x.safe(2, 5), 2);
        Due.due("POACHERS go on theirs", x.safe(0, 5), 2);
        x.look(0, 9);
        Due.due("FOUND", x.safe(0, 5), TrapsWatchTraps.NONE);
        Due.due("a longer way", x.safe(0, 6), 5);
        x.frost(true);
        Due.due("ARMED in FROST", x.safe(0, 6), 5);
        x.frost(false);
        x.step(1, 1);
        x.free(1);
        Due.due("SPRUNG: none to be shunned", x.safe(0, 2), 2);
        x.arm(0);
        Due.due("all KNOW it now", x.safe(0, 2), 6);
        Due.due("0 to where it is", x.safe(1, 1), 0);
        Due.due("off it", x.safe(1, 2), 1);
        Due.due("never back on it", x.safe(1, 5), TrapsWatchTraps.NONE);
        TrapsWatchTraps y = Due.woodOf("FT0103T0402G000");
        Due.due("a SHAM is not shunned", y.safe(0, 1), 1);
        Due.due("a DOUBLE one is", y.safe(0, 4), TrapsWatchTraps.NONE);
        Due.due("round it", y.safe(0, 8), 4);
        TrapsWatchTraps z = Due.woodOf("FT0101T0404G000");
        Due.due("WIRE and NET are shunned", z.safe(0, 11), TrapsWatchTraps.NONE);
        Due.due("0 to where it is", z.safe(0, 0), 0);
    }

    private static void shut() {
        TrapsWatchTraps x = Due.woodOf("FX01X05X06G000G110X08");
        Due.due("to a closed one", x.safe(0, 1), TrapsWatchTraps.NONE);
        Due.due("shut in", x.safe(0, 11), TrapsWatchTraps.NONE);
        Due.due("no way", x.safeAt(0, 11, 0), TrapsWatchTraps.NONE);
        Due.due("within", x.safe(0, 4), 1);
        Due.due("the other one", x.safe(1, 2), 3);
        Due.due("its way", x.safeAt(1, 2, 1), 3);
        TrapsWatchTraps y = Due.woodOf("FX01X05X07X03G000G11-");
        Due.due("the long way", y.safe(0, 2), 6);
        Due.due("the other's", y.safe(1, 0), 5);
        TrapsWatchTraps snake = Due.woodOf("FX04X05X06G000");
        Due.due("round three", snake.safe(0, 8), 8);
    }

    private static void way(TrapsWatchTraps x, int walker, int cell, int... cells) {
        Due.due("steps", x.safe(walker, cell), cells.length);
        for (int i = 0; i < cells.length; i++) {
            Due.due("safeAt(" + walker + ", " + cell + ", " + i + ")", x.safeAt(walker, cell, i), cells[i]);
        }
        Due.due("no more", x.safeAt(walker, cell, cells.length), TrapsWatchTraps.NONE);
    }

    /** Each answer of safeAt stands by itself, whatever way was asked for ahead of it. */
    private static void theWayAlone() {
        TrapsWatchTraps x = Due.woodOf("FT0600G000G110");
        Due.due("the first thing asked", x.safeAt(0, 11, 3), 7);
        Due.due("safe to another CELL", x.safe(0, 8), 2);
        Due.due("not that way", x.safeAt(0, 11, 3), 7);
        Due.due("safe of another", x.safe(1, 9), 2);
        Due.due("not its way", x.safeAt(0, 9, 0), 1);
        Due.due("safe where a TRAP is", x.safe(0, 6), TrapsWatchTraps.NONE);
        Due.due("not that one", x.safeAt(1, 2, 1), 3);
    }

    private static void theWay() {
        TrapsWatchTraps x = Due.woodOf("FT0600G000G110G05-");
        way(x, 0, 11, 1, 2, 3, 7, 11);
        way(x, 1, 0, 7, 3, 2, 1, 0);
        way(x, 2, 11, 6, 7, 11);
        way(x, 2, 0, 1, 0);
        way(x, 2, 8, 4, 8);
        way(x, 0, 10, 1, 5, 9, 10);
        TrapsWatchTraps y = Due.woodOf("FX04X05X06G000G080");
        way(y, 0, 8, 1, 2, 3, 7, 11, 10, 9, 8);
        way(y, 1, 0, 9, 10, 11, 7, 3, 2, 1, 0);
        // The least first step would lead into a dead end.
        TrapsWatchTraps z = Due.woodOf("FX02X06X10G050X09");
        way(z, 0, 8, 4, 8);
        way(z, 0, 0, 1, 0);
    }

    private static void toLook() {
        TrapsWatchTraps x = Due.woodOf("FT0510T0114T0613T1001T0401T0911X05");
        Due.due("toLook(2)", x.toLook(2), TrapsWatchTraps.OUTSIDE);
        Due.due("toLook(-1)", x.toLook(-1), TrapsWatchTraps.OUTSIDE);
        String then = Due.all(x);
        Due.due("toLook(0): a closed one", x.toLook(0), 5);
        Due.due("toLook(1): the least of like ones", x.toLook(1), 0);
        Due.dueSame("nothing changes", Due.all(x), then);
        x.look(1, 0);
        Due.due("what is left", x.toLook(1), 6);
        x.look(1, 11);
        Due.due("none is left", x.toLook(1), 0);
        x.look(0, 5);
        Due.due("none is left", x.toLook(0), 0);
        TrapsWatchTraps y = Due.woodOf("FT1110T0310G020");
        Due.due("the least between two", y.toLook(0), 7);
        y.step(0, 3);
        Due.due("SPRUNG ones are known", y.toLook(0), 7);
        Due.due("no TRAPS", new TrapsWatchTraps().toLook(1), 0);
        TrapsWatchTraps z = Due.woodOf("FT1110");
        Due.due("one in the corner", z.toLook(0), 7);
    }
}
