/** The sentences about what springs by one, rings, the fewest by which all spring, which was first: promises 15 to 18. */
final class EdgesOfWires {
    private static final int UNKNOWN = TrapsWatchTraps.UNKNOWN, OUTSIDE = TrapsWatchTraps.OUTSIDE;
    private static final String WIRES = "FT0001T0101T0201T0301T0401T0501";

    private EdgesOfWires() {
    }

    static void run() {
        sprung();
        sprungUnknown();
        rings();
        all();
        allLeast();
        first();
        firstOutside();
    }

    private static void sprung() {
        Sentence.of("Promise 15", "SPRUNG by a TRAP.");
        Sentence.of("Terms", "SPRUNG by a TRAP: all that SPRING, if it does now, as bits.");
        TrapsWatchTraps chain = Due.woodOf(WIRES + "W01W12W23W34W45");
        TrapsWatchTraps ring = Due.woodOf(WIRES + "W01W12W23W34W45W50");
        TrapsWatchTraps alone = Due.woodOf(WIRES);
        for (int t = 0; t < 6; t++) {
            Due.due("of a chain: sprung(" + t + ")", chain.sprung(t), 63 & -1 << t);
            Due.due("of a ring: sprung(" + t + ")", ring.sprung(t), 63);
            Due.due("without wires: sprung(" + t + ")", alone.sprung(t), 1 << t);
        }
        // As things are now: not armed ones, shams, frost; a double one springs at once.
        TrapsWatchTraps x = Due.woodOf("FT0001T0102T0203T0300T0704W01W13W12W24W43G060G110");
        int[] want = {Due.bits(0, 1, 3), Due.bits(1, 3), 0, Due.bits(3), Due.bits(3, 4)};
        for (int t = 0; t < 5; t++) Due.due("sprung(" + t + ")", x.sprung(t), want[t]);
        x.frost(true);
        for (int t = 0; t < 5; t++) Due.due("in FROST: sprung(" + t + ")", x.sprung(t), 0);
        x.frost(false);
        x.step(1, 7);
        Due.due("not ARMED: sprung(3)", x.sprung(3), 0);
        Due.due("not ARMED: sprung(4)", x.sprung(4), 0);
        Due.due("up to it: sprung(0)", x.sprung(0), Due.bits(0, 1));
        x.arm(4);
        Due.due("ARMED anew: sprung(4)", x.sprung(4), Due.bits(4));
        Twins.neverAChange("sprung()", y -> {
            for (int t = 0; t < 6; t++) y.sprung(t);
        });
    }

    private static void sprungUnknown() {
        Sentence.of("Promise 15", "UNKNOWN.");
        for (int t : Refusals.NO_TRAPS) Twins.refused("sprung(" + t + ")", Twins.BUSY, x -> x.sprung(t), UNKNOWN);
        Twins.refused("sprung(2) of two", Twins.SMALL, x -> x.sprung(2), UNKNOWN);
        Twins.refused("sprung(0) of none", Twins.NEW, x -> x.sprung(0), UNKNOWN);
    }

    private static void rings() {
        Sentence.of("Promise 16", "RINGS.");
        Sentence.of("Terms", "RINGS: TRAPS that set off themselves in the end, by wires alone (whatever they are), as bits.");
        Due.due("no TRAPS", new TrapsWatchTraps().rings(), 0);
        Due.due("one", Due.woodOf("FT0000").rings(), 0);
        Due.due("no wires", Due.woodOf(WIRES).rings(), 0);
        Due.due("a chain of all", Due.woodOf(WIRES + "W01W12W23W34W45").rings(), 0);
        Due.due("one way and another to one", Due.woodOf(WIRES + "W01W02W13W23W34W35").rings(), 0);
        Due.due("the shortest", Due.woodOf(WIRES + "W45W54").rings(), Due.bits(4, 5));
        Due.due("the longest", Due.woodOf(WIRES + "W01W12W23W34W45W50").rings(), 63);
        Due.due("the longest, backwards", Due.woodOf(WIRES + "W54W43W32W21W10W05").rings(), 63);
        Due.due("those ahead of one and behind it", Due.woodOf(WIRES + "W01W12W23W31W34W45").rings(), Due.bits(1, 2, 3));
        Due.due("two, a wire between", Due.woodOf(WIRES + "W01W10W12W23W32").rings(), Due.bits(0, 1, 2, 3));
        for (int kind = 0; kind <= 4; kind++) {
            TrapsWatchTraps x = Due.woodOf("FT050" + kind + "T061" + kind + "W01W10G040G041");
            Due.due("of KIND " + kind, x.rings(), 3);
            x.step(0, 5);
            x.step(1, 5);
            Due.due("not ARMED", x.rings(), 3);
            x.frost(true);
            Due.due("in FROST", x.rings(), 3);
        }
        Twins.neverAChange("rings()", x -> x.rings());
    }

    private static void all() {
        Sentence.of("Promise 17", "ALL AT ONCE.");
        Sentence.of("Terms", "ALL AT ONCE: the fewest TRAPS by which, if these SPRING one behind the other, all SPRING that can;");
        Due.due("no TRAPS", new TrapsWatchTraps().all(), 0);
        Due.due("no wires", Due.woodOf(WIRES).all(), 63);
        Due.due("a chain", Due.woodOf(WIRES + "W01W12W23W34W45").all(), 1);
        Due.due("a chain, backwards", Due.woodOf(WIRES + "W54W43W32W21W10").all(), 32);
        Due.due("two chains", Due.woodOf(WIRES + "W10W12W43W45").all(), Due.bits(1, 4));
        Due.due("shams alone", Due.woodOf("FT0003T0113W01W10").all(), 0);
        Due.due("a sham breaks a chain", Due.woodOf("FT0001T0103T0201W01W12").all(), Due.bits(0, 2));
        Due.due("a double one does not", Due.woodOf("FT0001T0102T0201W01W12").all(), 1);
        TrapsWatchTraps x = Due.woodOf("FT0001T0101T0201W01W12G050G06-");
        x.frost(true);
        Due.due("in FROST none can", x.all(), 0);
        x.frost(false);
        x.step(0, 1);
        Due.due("one that is left", x.all(), 1);
        x.arm(2);
        Due.due("the chain is broken", x.all(), Due.bits(0, 2));
        x.arm(1);
        Due.due("it is whole", x.all(), 1);
        x.step(1, 2);
        x.step(0, 0);
        Due.due("none is ARMED", x.count(3), 0);
        Due.due("none can", x.all(), 0);
        Twins.neverAChange("all()", y -> y.all());
    }

    private static void allLeast() {
        Sentence.of("Terms", "of like ones the least set (bits).");
        Due.due("a ring of all", Due.woodOf(WIRES + "W01W12W23W34W45W50").all(), 1);
        Due.due("a ring of the last two", Due.woodOf("FT0003T0101T0201W12W21").all(), 2);
        Due.due("two rings", Due.woodOf(WIRES + "W01W10W23W32W45W54").all(), Due.bits(0, 2, 4));
        Due.due("a ring behind one", Due.woodOf(WIRES + "W50W01W10W23W34W42").all(), Due.bits(2, 5));
        Due.due("two rings that lead to the same", Due.woodOf(WIRES + "W01W10W45W54W02W03W12W13").all(), Due.bits(0, 4));
        TrapsWatchTraps x = Due.woodOf("FT0001T0101T0201W01W12W20G040");
        Due.due("a ring", x.all(), 1);
        x.step(0, 0);
        x.arm(1);
        x.arm(2);
        Due.due("what is left of it", x.all(), 2);
    }

    private static void first() {
        Sentence.of("Promise 18", "FIRST.");
        Sentence.of("Terms", "FIRST by a set of TRAPS: those by which alone just that set would have SPRUNG, all being ARMED, "
                + "without FROST");
        TrapsWatchTraps x = Due.woodOf("FT0501T0601T0702T0303T0800T0904W01W12W21W23W45G040G100");
        int[][] due = {{7, 1}, {6, 6}, {48, 16}, {32, 32}, {0, 8}, {1, 0}, {2, 0}, {4, 0}, {3, 0}, {8, 0}, {15, 0}, {63, 0}};
        for (int when = 0; when < 3; when++) {
            for (int set = 0; set < 64; set++) {
                int want = 0;
                for (int[] pair : due) want = pair[0] == set ? pair[1] : want;
                Due.due("first(" + set + ")", x.first(set), want);
            }
            // All being armed, without frost: whatever they are now.
            x.frost(when == 1);
            x.step(0, when == 0 ? 5 : 4);
        }
        Sentence.of("Terms", "(by a SHAM nothing does).");
        Due.due("shams", Due.woodOf("FT0003T0100T0203W01W20W12").first(0), 5);
        Due.due("one wired to another", Due.woodOf("FT0003T0100W01").first(2), 2);
        Due.due("not with itself", Due.woodOf("FT0003T0100W01").first(3), 0);
        Due.due("not alone", Due.woodOf("FT0003").first(1), 0);
        Due.due("no sham", Due.woodOf("FT0000").first(0), 0);
        Due.due("no TRAPS", new TrapsWatchTraps().first(0), 0);
        Twins.neverAChange("first()", y -> {
            for (int set = 0; set < 64; set++) y.first(set);
        });
    }

    private static void firstOutside() {
        Sentence.of("Promise 18", "OUTSIDE: set (bits of TRAPS).");
        int[] no = {-1, Integer.MIN_VALUE, Integer.MAX_VALUE, 64, 65, 127, 128, 1 << 30, -64, -63};
        for (int set : no) Twins.refused("first(" + set + ")", Twins.BUSY, x -> x.first(set), OUTSIDE);
        for (int set : new int[] {4, 5, 7, 8, 32, 63, -1}) {
            Twins.refused("first(" + set + ") of two", Twins.SMALL, x -> x.first(set), OUTSIDE);
        }
        for (int set : new int[] {1, 2, 32, -1}) {
            Twins.refused("first(" + set + ") of none", Twins.NEW, x -> x.first(set), OUTSIDE);
        }
        for (int traps = 0; traps <= 6; traps++) {
            TrapsWatchTraps x = Due.woodOf(WIRES.substring(0, 1 + 5 * traps));
            Due.dueTrue("all of " + traps, x.first((1 << traps) - 1) >= 0);
            Due.due("one more than " + traps, x.first(1 << traps), OUTSIDE);
        }
    }
}
