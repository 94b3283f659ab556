/** Numbers of nothing, and the words of the document about all refusals. */
final class Refusals {
    static final int[] NO_CELLS = {-1, 12, 13, -9, 31, 32, 37, 44, -32, 268, Integer.MIN_VALUE, Integer.MAX_VALUE};
    static final int[] NO_TRAPS = {-1, 6, 7, -9, 31, 32, 37, -32, 256, Integer.MIN_VALUE, Integer.MAX_VALUE};
    static final int[] NO_WALKERS = {-1, 4, 5, -9, 31, 32, 35, -32, 256, Integer.MIN_VALUE, Integer.MAX_VALUE};
    static final int[] NO_SIDES = {-1, 2, 3, -9, 31, 32, 33, 48, 49, -32, Integer.MIN_VALUE, Integer.MAX_VALUE};
    static final int[] NO_SLOTS = {-1, 2, 3, -9, 31, 32, 33, -32, 256, Integer.MIN_VALUE, Integer.MAX_VALUE};
    private static final int UNKNOWN = TrapsWatchTraps.UNKNOWN, OUTSIDE = TrapsWatchTraps.OUTSIDE;
    private static final int STATE = TrapsWatchTraps.STATE, FULL = TrapsWatchTraps.FULL;

    private Refusals() {
    }

    static void run() {
        firstThatIsNamed();
        unknown();
        outside();
        stateAndFull();
        changesNothing();
    }

    private static void busy(String name, Twins.Call call, int refusal) {
        Twins.refused(name, Twins.BUSY, call, refusal);
    }

    /** In BUSY walker 0 is caught, there are six traps, and the text needs one byte more. */
    private static void firstThatIsNamed() {
        Sentence.of("Terms", "REFUSALS, of several the first that a call names:");
        Twins.refused("OUTSIDE ahead of FULL", Twins.FULL_TEXT, x -> x.write(9, 0), OUTSIDE);
        Twins.refused("OUTSIDE ahead of FULL", Twins.FULL_TEXT, x -> x.write(0, 0), OUTSIDE);
        busy("trap: UNKNOWN ahead of OUTSIDE", x -> x.trap(6, 7), UNKNOWN);
        busy("walker: UNKNOWN ahead of OUTSIDE", x -> x.walker(4, 4), UNKNOWN);
        busy("step: no WALKER, no CELL", x -> x.step(4, 12), UNKNOWN);
        busy("step: UNKNOWN ahead of STATE, CAUGHT", x -> x.step(0, 12), UNKNOWN);
        busy("step: UNKNOWN ahead of STATE, CAUGHT", x -> x.step(0, -1), UNKNOWN);
        busy("look: UNKNOWN ahead of OUTSIDE", x -> x.look(2, 12), UNKNOWN);
        busy("look: UNKNOWN ahead of OUTSIDE", x -> x.look(-1, -1), UNKNOWN);
        busy("safe: UNKNOWN ahead of STATE", x -> x.safe(0, 12), UNKNOWN);
        busy("safe: no WALKER, no CELL", x -> x.safe(4, 12), UNKNOWN);
        busy("safeAt: UNKNOWN ahead of STATE", x -> x.safeAt(0, -1, 0), UNKNOWN);
        busy("safeAt: UNKNOWN ahead of NONE", x -> x.safeAt(4, 0, 99), UNKNOWN);
        busy("safeAt: STATE ahead of NONE", x -> x.safeAt(0, 0, 99), STATE);
        for (boolean upper : new boolean[] {true, false}) {
            busy("strays: UNKNOWN ahead of OUTSIDE", x -> x.strays(4, 5, upper), UNKNOWN);
            busy("strays: UNKNOWN ahead of OUTSIDE", x -> x.strays(-1, -1, upper), UNKNOWN);
            busy("strays: OUTSIDE ahead of STATE", x -> x.strays(0, 5, upper), OUTSIDE);
            busy("strays: OUTSIDE ahead of STATE", x -> x.strays(0, -1, upper), OUTSIDE);
        }
        busy("oneMore: UNKNOWN ahead of OUTSIDE, FULL", x -> x.oneMore(4, 4), UNKNOWN);
        busy("oneMore: UNKNOWN ahead of FULL", x -> x.oneMore(-1, 1), UNKNOWN);
        busy("oneMore: OUTSIDE ahead of STATE, FULL", x -> x.oneMore(0, 4), OUTSIDE);
        busy("oneMore: OUTSIDE ahead of FULL", x -> x.oneMore(1, 0), OUTSIDE);
        busy("oneMore: STATE ahead of FULL", x -> x.oneMore(0, 1), STATE);
        busy("oneMore: FULL", x -> x.oneMore(1, 1), FULL);
    }

    private static void unknown() {
        Sentence.of("Terms", "UNKNOWN (there is no such CELL, TRAP, WALKER, SLOT),");
        Due.due("UNKNOWN", UNKNOWN, -1);
        for (int c : NO_CELLS) {
            busy("near(" + c + ")", x -> x.near(c), UNKNOWN);
            busy("step(1, " + c + ")", x -> x.step(1, c), UNKNOWN);
            busy("look(0, " + c + ")", x -> x.look(0, c), UNKNOWN);
            busy("safe(1, " + c + ")", x -> x.safe(1, c), UNKNOWN);
            busy("safeAt(1, " + c + ", 0)", x -> x.safeAt(1, c, 0), UNKNOWN);
        }
        for (int t : NO_TRAPS) {
            busy("trap(" + t + ", 0)", x -> x.trap(t, 0), UNKNOWN);
            busy("arm(" + t + ")", x -> x.arm(t), UNKNOWN);
            busy("sprung(" + t + ")", x -> x.sprung(t), UNKNOWN);
        }
        for (int w : NO_WALKERS) {
            busy("walker(" + w + ", 0)", x -> x.walker(w, 0), UNKNOWN);
            busy("step(" + w + ", 0)", x -> x.step(w, 0), UNKNOWN);
            busy("free(" + w + ")", x -> x.free(w), UNKNOWN);
            busy("safe(" + w + ", 0)", x -> x.safe(w, 0), UNKNOWN);
            busy("safeAt(" + w + ", 0, 0)", x -> x.safeAt(w, 0, 0), UNKNOWN);
            busy("strays(" + w + ", 1)", x -> x.strays(w, 1, true), UNKNOWN);
            busy("oneMore(" + w + ", 1)", x -> x.oneMore(w, 1), UNKNOWN);
        }
        for (int s : NO_SLOTS) {
            busy("keep(" + s + ")", x -> x.keep(s), UNKNOWN);
            busy("again(" + s + ")", x -> x.again(s), UNKNOWN);
        }
    }

    private static void outside() {
        Sentence.of("Terms", "OUTSIDE (another number is not as told),");
        Due.due("OUTSIDE", OUTSIDE, -2);
        int[] far = {-1, 64, 65, -9, 100, 256, Integer.MIN_VALUE, Integer.MAX_VALUE};
        for (int n : far) {
            busy("write(" + n + ")", x -> x.write(n, 0), OUTSIDE);
            busy("trap(0, " + n + ")", x -> x.trap(0, n), OUTSIDE);
            busy("walker(0, " + n + ")", x -> x.walker(0, n), OUTSIDE);
            busy("look(" + n + ", 0)", x -> x.look(n, 0), OUTSIDE);
            busy("first(" + n + ")", x -> x.first(n), OUTSIDE);
            busy("toLook(" + n + ")", x -> x.toLook(n), OUTSIDE);
            busy("strays(1, " + n + ")", x -> x.strays(1, n, false), OUTSIDE);
            busy("oneMore(1, " + n + ")", x -> x.oneMore(1, n), OUTSIDE);
            busy("night(" + n + ")", x -> x.night(n), OUTSIDE);
            busy("count(" + n + ")", x -> x.count(n), OUTSIDE);
        }
    }

    private static void stateAndFull() {
        Sentence.of("Terms", "STATE (as told), FULL.");
        Due.due("STATE", STATE, -3);
        Due.due("FULL", FULL, -4);
        busy("wood() with a FAULT", x -> x.wood(), STATE);
        busy("step of a CAUGHT one", x -> x.step(0, 4), STATE);
        busy("step too far", x -> x.step(1, 11), STATE);
        busy("arm of an ARMED one", x -> x.arm(2), STATE);
        busy("free of a free one", x -> x.free(1), STATE);
        busy("safe of a CAUGHT one", x -> x.safe(0, 0), STATE);
        busy("safeAt of a CAUGHT one", x -> x.safeAt(0, 0, 0), STATE);
        busy("strays of a CAUGHT one", x -> x.strays(0, 0, true), STATE);
        busy("oneMore for a CAUGHT one", x -> x.oneMore(0, 1), STATE);
        busy("oneMore of six", x -> x.oneMore(2, 3), FULL);
        Twins.refused("undo() of none", Twins.SMALL, x -> x.undo(), STATE);
        Twins.refused("again(0) of none", Twins.SMALL, x -> x.again(0), STATE);
        Twins.refused("write() beyond 64", Twins.FULL_TEXT, x -> x.write(1, '0'), FULL);
    }

    /** All of them, one behind the other, on one object. */
    private static void changesNothing() {
        Sentence.of("Terms", "What is refused changes nothing.");
        Twins.neverAChange("a row of refused calls", x -> {
            x.write(0, 'F');
            x.write(9, 'F');
            x.step(-1, 0);
            x.step(0, 12);
            x.step(0, 11);
            x.step(4, 0);
            x.arm(6);
            x.arm(-1);
            x.look(2, 0);
            x.look(0, 12);
            x.free(4);
            x.free(-1);
            x.night(0);
            x.night(41);
            x.keep(2);
            x.keep(-1);
            x.again(2);
            x.again(-1);
            x.first(64);
            x.strays(0, 5, true);
            x.oneMore(0, 4);
            x.trap(6, 0);
            x.walker(4, 0);
            x.near(12);
            x.count(10);
            x.toLook(2);
            x.sprung(6);
            x.safe(4, 0);
            x.safeAt(0, 12, 0);
        });
    }
}
