/** Promises 10 to 14: steps, traps armed anew, looks, caught ones that go free, all undone. */
public final class ActsTest {
    private ActsTest() {
    }

    public static void main(String[] args) {
        stepIsRefused();
        stepByKinds();
        stepWakes();
        stepInWaves();
        stepInFrost();
        stepMakesKnown();
        arm();
        look();
        free();
        undoOfEach();
        undoOfMany();
        undoLeavesFrost();
        Due.end();
    }

    private static void stepIsRefused() {
        TrapsWatchTraps x = Due.woodOf("FT0100X04G000G051");
        String then = Due.all(x);
        Due.due("step(2, 1)", x.step(2, 1), TrapsWatchTraps.UNKNOWN);
        Due.due("step(-1, 1)", x.step(-1, 1), TrapsWatchTraps.UNKNOWN);
        Due.due("step(0, 12)", x.step(0, 12), TrapsWatchTraps.UNKNOWN);
        Due.due("step(0, -1)", x.step(0, -1), TrapsWatchTraps.UNKNOWN);
        Due.due("step where it is", x.step(0, 0), TrapsWatchTraps.STATE);
        Due.due("step on a closed one", x.step(0, 4), TrapsWatchTraps.STATE);
        Due.due("step too far", x.step(0, 2), TrapsWatchTraps.STATE);
        Due.due("step across", x.step(0, 5), TrapsWatchTraps.STATE);
        Due.dueSame("refused steps", Due.all(x), then);
        Due.due("step on a SNARE", x.step(0, 1), 1);
        then = Due.all(x);
        Due.due("a CAUGHT one", x.step(0, 2), TrapsWatchTraps.STATE);
        Due.due("a CAUGHT one to no CELL", x.step(0, 12), TrapsWatchTraps.UNKNOWN);
        Due.dueSame("refused steps of a CAUGHT one", Due.all(x), then);
        TrapsWatchTraps y = Due.woodOf("FG030G040");
        Due.due("the end of a row is not next to the next one's first", y.step(0, 4), TrapsWatchTraps.STATE);
        Due.due("nor this to that", y.step(1, 3), TrapsWatchTraps.STATE);
        Due.due("step", y.step(0, 7), 0);
        Due.due("where it is", y.walker(0, 0), 7);
        Due.due("an ACT", y.count(8), 1);
    }

    /** Whether one of a side (0, 1, -) is caught by a trap of a kind that it steps on. */
    private static void stepByKind(int kind, char side, int springs, int caught) {
        for (int of = 0; of < 2; of++) {
            TrapsWatchTraps x = Due.woodOf("FT05" + of + kind + "G04" + side);
            Due.due("kind " + kind + ", " + side + ": step", x.step(0, 5), springs);
            Due.due("kind " + kind + ", " + side + ": CAUGHT", x.walker(0, 2), caught);
            Due.due("kind " + kind + ", " + side + ": by", x.walker(0, 3), caught == 1 ? 0 : TrapsWatchTraps.NONE);
            Due.due("kind " + kind + ", " + side + ": ARMED", x.trap(0, 4), 1 - springs);
            Due.due("kind " + kind + ", " + side + ": where", x.walker(0, 0), 5);
            Due.due("kind " + kind + ", " + side + ": woken", x.trap(0, 5), kind == 2 ? 1 : 0);
        }
    }

    private static void stepByKinds() {
        for (char side : new char[] {'0', '1', '-'}) {
            int man = side == '-' ? 0 : 1;
            stepByKind(0, side, 1, man);
            stepByKind(1, side, 1, 0);
            stepByKind(2, side, 0, 0);
            stepByKind(3, side, 0, 0);
            stepByKind(4, side, 1, 1);
        }
    }

    private static void stepWakes() {
        TrapsWatchTraps x = Due.woodOf("FT0502T0014W01G040G061G01-G000");
        Due.due("a BEAST wakes it", x.step(2, 5), 0);
        Due.due("woken", x.trap(0, 5), 1);
        Due.due("nobody KNOWS more", x.count(6), 2);
        Due.due("all that are free on it are CAUGHT", x.step(0, 5), 3);
        Due.due("the men, not the BEAST, and one far off", x.count(4), Due.bits(0, 3));
        Due.due("not woken any more", x.trap(0, 5), 0);
        Due.due("by the second", x.walker(3, 3), 1);
        Due.due("one that is not ARMED", x.step(1, 5), 0);
        Due.due("is not woken", x.trap(0, 5), 0);
        x.arm(0);
        Due.due("the CAUGHT one stays", x.walker(0, 3), 0);
        Due.due("step off", x.step(1, 6), 0);
        Due.due("wakes it anew", x.step(1, 5), 0);
        x.step(2, 9);
        Due.due("a BEAST makes it SPRING", x.step(2, 5), 1);
        Due.due("it catches the man that was there", x.walker(1, 3), 0);
        Due.due("not the BEAST", x.walker(2, 2), 0);
    }

    private static void stepInWaves() {
        // 0 -> 1 -> 2 (double) -> 3 (sham) -> 4, 2 -> 5 and a ring back to 0.
        TrapsWatchTraps x = Due.woodOf("FT0101T0200T0302T1003T0800T0914W01W12W23W34W25W50G000G030G09-");
        Due.due("step on the WIRE", x.step(0, 1), Due.bits(0, 1, 2, 5));
        Due.due("CAUGHT far off", x.count(4), Due.bits(1, 2));
        Due.due("by a DOUBLE one at once", x.walker(1, 3), 2);
        Due.due("by a NET", x.walker(2, 3), 5);
        Due.due("what is left", x.count(3), Due.bits(3, 4));
        Due.due("step off", x.step(0, 0), 0);
        Due.due("SPRUNG ones do nothing", x.step(0, 1), 0);
        x.arm(0);
        x.arm(5);
        x.step(0, 0);
        Due.due("one that is not ARMED sets off nothing", x.step(0, 1), Due.bits(0));
        TrapsWatchTraps y = Due.woodOf("FT0500T0604W01W10G040G06-");
        y.step(0, 5);
        Due.due("a CAUGHT one stays by its TRAP", y.walker(1, 3), 1);
        y.arm(1);
        y.free(0);
        Due.due("a man on a re-armed NET", y.step(0, 6), 2);
        Due.due("the NET's", y.walker(0, 3), 1);
    }

    private static void stepInFrost() {
        TrapsWatchTraps x = Due.woodOf("FT0502T0100W01G040");
        x.frost(true);
        Due.due("step in FROST", x.step(0, 5), 0);
        Due.due("nothing is woken", x.trap(0, 5), 0);
        x.frost(false);
        x.step(0, 4);
        x.step(0, 5);
        Due.due("woken", x.trap(0, 5), 1);
        x.frost(true);
        x.step(0, 4);
        Due.due("a woken one in FROST", x.step(0, 5), 0);
        Due.due("still woken", x.trap(0, 5), 1);
        Due.due("still ARMED", x.count(3), 3);
        Due.due("an ACT all the same", x.count(8), 5);
    }

    private static void stepMakesKnown() {
        TrapsWatchTraps x = Due.woodOf("FT0511T0110T0713W01W02G040");
        Due.due("POACHERS KNOW none", x.count(5), 0);
        x.step(0, 5);
        Due.due("POACHERS KNOW what SPRANG", x.count(5), 3);
        Due.due("KEEPERS KNOW theirs", x.count(6), 7);
    }

    private static void arm() {
        TrapsWatchTraps x = Due.woodOf("FT0501T0610T1013W01G040G061");
        Due.due("arm of an ARMED one", x.arm(0), TrapsWatchTraps.STATE);
        Due.due("arm of a SHAM", x.arm(2), TrapsWatchTraps.STATE);
        Due.due("arm(3)", x.arm(3), TrapsWatchTraps.UNKNOWN);
        Due.due("arm(-1)", x.arm(-1), TrapsWatchTraps.UNKNOWN);
        Due.due("no ACT", x.count(8), 0);
        x.step(0, 5);
        Due.due("both SPRANG", x.count(3), 4);
        Due.due("arm(1) by KEEPERS", x.arm(1), 1);
        Due.due("arm(0) by POACHERS", x.arm(0), 0);
        Due.due("all ARMED", x.count(3), 7);
        Due.due("the CAUGHT one stays", x.walker(1, 3), 1);
        Due.due("ACTS", x.count(8), 3);
        Due.due("arm(0) anew", x.arm(0), TrapsWatchTraps.STATE);
        Due.due("SIDES KNOW as they did", x.count(5), 3);
        x.step(0, 4);
        x.frost(true);
        x.frost(false);
        x.step(0, 5);
        x.frost(true);
        Due.due("arm in FROST", x.arm(0), 0);
    }

    private static void look() {
        TrapsWatchTraps x = Due.woodOf("FT0510T0114T0613T1001T0410T0910X05");
        Due.due("look(0, 12)", x.look(0, 12), TrapsWatchTraps.UNKNOWN);
        Due.due("look(0, -1)", x.look(0, -1), TrapsWatchTraps.UNKNOWN);
        Due.due("look(2, 0)", x.look(2, 0), TrapsWatchTraps.OUTSIDE);
        Due.due("look(-1, 0)", x.look(-1, 0), TrapsWatchTraps.OUTSIDE);
        Due.due("UNKNOWN ahead of OUTSIDE", x.look(2, 12), TrapsWatchTraps.UNKNOWN);
        Due.due("no ACT", x.count(8), 0);
        Due.due("look(0, 0)", x.look(0, 0), Due.bits(1, 4));
        Due.due("look(0, 3)", x.look(0, 3), 0);
        Due.due("look(0, 5), a closed one", x.look(0, 5), Due.bits(0, 2, 5));
        Due.due("look(0, 5) anew", x.look(0, 5), 0);
        Due.due("POACHERS KNOW", x.count(5), 63);
        Due.due("KEEPERS KNOW", x.count(6), 63 - 8);
        Due.due("look(1, 10)", x.look(1, 10), 8);
        Due.due("look(1, 11)", x.look(1, 11), 0);
        Due.due("ACTS", x.count(8), 6);
        Due.due("nothing SPRINGS by a LOOK", x.count(3), 63);
    }

    private static void free() {
        TrapsWatchTraps x = Due.woodOf("FT0500T0604G040G05-G061");
        Due.due("free(0)", x.free(0), TrapsWatchTraps.STATE);
        Due.due("free(3)", x.free(3), TrapsWatchTraps.UNKNOWN);
        Due.due("free(-1)", x.free(-1), TrapsWatchTraps.UNKNOWN);
        Due.due("no ACT", x.count(8), 0);
        x.step(1, 6);
        Due.due("the NET has both", x.count(4), Due.bits(1, 2));
        Due.due("free(2)", x.free(2), 1);
        Due.due("free(2) anew", x.free(2), TrapsWatchTraps.STATE);
        Due.due("the other is not", x.count(4), Due.bits(1));
        Due.due("by none", x.walker(2, 3), TrapsWatchTraps.NONE);
        Due.due("where it was", x.walker(2, 0), 6);
        Due.due("the TRAP is not ARMED", x.trap(1, 4), 0);
        Due.due("ACTS", x.count(8), 2);
        Due.due("it steps", x.step(2, 5), 1);
        Due.due("free of the SNARE", x.free(2), 0);
    }

    private static void undoOfEach() {
        TrapsWatchTraps x = Due.woodOf("FT0502T0614T0100W01W12G040G061G00-");
        Due.due("undo() of none", x.undo(), TrapsWatchTraps.STATE);
        String[] told = new String[8];
        told[0] = Due.brief(x);
        Due.due("wakes", x.step(0, 5), 0);
        told[1] = Due.brief(x);
        Due.due("step off", x.step(0, 4), 0);
        told[2] = Due.brief(x);
        Due.due("SPRINGS", x.step(0, 5), 7);
        told[3] = Due.brief(x);
        Due.due("free", x.free(0), 0);
        told[4] = Due.brief(x);
        Due.due("arm", x.arm(2), 0);
        told[5] = Due.brief(x);
        Due.due("step of a BEAST", x.step(2, 1), 4);
        told[6] = Due.brief(x);
        Due.due("look", x.look(0, 3), 0);
        for (int left = 6; left >= 0; left--) {
            Due.due("undo()", x.undo(), left);
            Due.dueSame("undone to " + left, Due.brief(x), told[left]);
        }
        Due.due("undo() of no more", x.undo(), TrapsWatchTraps.STATE);
        Due.due("look(1, 9)", x.look(1, 9), 1);
        Due.due("undo() of a LOOK", x.undo(), 0);
        Due.due("what was FOUND is not", x.trap(0, 6), 1);
        x.step(0, 5);
        x.seed(5);
        x.keep(1);
        Due.due("refused", x.step(0, 5), TrapsWatchTraps.STATE);
        Due.due("seed, keep are no ACTS", x.undo(), 0);
        Due.due("where it was", x.walker(0, 0), 4);
    }

    private static void undoOfMany() {
        for (int acts = 15; acts <= 40; acts++) {
            TrapsWatchTraps x = Due.woodOf("FT0704G000");
            int[] cells = new int[acts + 1];
            for (int i = 0; i < acts; i++) {
                cells[i] = x.walker(0, 0);
                int to = new int[] {1, 5, 4, 8, 9, 5, 1, 0}[i % 8];
                Due.due("step " + i, x.step(0, to), 0);
            }
            int row = Math.min(acts, 16);
            Due.due("ACTS of " + acts, x.count(8), row);
            for (int i = 1; i <= row; i++) {
                Due.due("undo() of " + acts, x.undo(), row - i);
                Due.due("undone " + i + " of " + acts, x.walker(0, 0), cells[acts - i]);
            }
            Due.due("no more of " + acts, x.undo(), TrapsWatchTraps.STATE);
        }
    }

    private static void undoLeavesFrost() {
        TrapsWatchTraps x = Due.woodOf("FT0500G040");
        x.step(0, 5);
        x.frost(true);
        Due.due("undo()", x.undo(), 0);
        Due.due("FROST stays", x.count(9), 1);
        Due.due("free", x.count(4), 0);
        Due.due("ARMED", x.count(3), 1);
        x.step(0, 5);
        x.frost(false);
        Due.due("undo() of a step in FROST", x.undo(), 0);
        Due.due("no FROST stays", x.count(9), 0);
    }
}
