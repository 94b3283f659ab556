/** Promises 15 to 18: what springs by one, rings, the fewest by which all spring, which one was first. */
public final class WiresTest {
    private WiresTest() {
    }

    public static void main(String[] args) {
        sprung();
        rings();
        all();
        first();
        Due.end();
    }

    private static void sprung() {
        TrapsWatchTraps x = Due.woodOf("FT0001T0100T0202T0303T0404T0500W01W12W23W34W24W40G000");
        String then = Due.all(x);
        int[] want = {23, 23, 23, 0, 23, 32};
        for (int t = 0; t < 6; t++) {
            Due.due("sprung(" + t + ")", x.sprung(t), want[t]);
        }
        Due.due("sprung(6)", x.sprung(6), TrapsWatchTraps.UNKNOWN);
        Due.due("sprung(-1)", x.sprung(-1), TrapsWatchTraps.UNKNOWN);
        Due.dueSame("nothing changes", Due.all(x), then);
        x.frost(true);
        Due.due("in FROST", x.sprung(0), 0);
        x.frost(false);
        x.step(0, 1);
        x.arm(0);
        x.arm(2);
        Due.due("one behind another that is not ARMED", x.sprung(0), 1);
        Due.due("one that is not ARMED", x.sprung(1), 0);
        Due.due("one ahead of such a one", x.sprung(2), 4);
        Due.due("of fewer TRAPS", Due.woodOf("FT0000").sprung(1), TrapsWatchTraps.UNKNOWN);
    }

    private static void rings() {
        String six = "FT0000T0100T0203T0303T0404T0500";
        Due.due("no wires", Due.woodOf(six).rings(), 0);
        Due.due("a chain", Due.woodOf(six + "W01W12W23W34W45").rings(), 0);
        Due.due("a ring of SHAMS", Due.woodOf(six + "W23W32").rings(), Due.bits(2, 3));
        Due.due("what leads there, what leads off", Due.woodOf(six + "W02W23W32W35").rings(), Due.bits(2, 3));
        Due.due("one ring", Due.woodOf(six + "W01W12W23W34W45W50").rings(), 63);
        Due.due("two rings", Due.woodOf(six + "W01W10W12W45W54").rings(), Due.bits(0, 1, 4, 5));
        TrapsWatchTraps x = Due.woodOf("FT0500T0600W01W10G040");
        x.step(0, 5);
        Due.due("SPRUNG ones", x.rings(), 3);
        x.frost(true);
        Due.due("in FROST", x.rings(), 3);
        Due.due("no TRAPS", new TrapsWatchTraps().rings(), 0);
    }

    private static void all() {
        String six = "FT0000T0101T0202T0303T0404T0500";
        Due.due("no wires", Due.woodOf(six).all(), 63 - 8);
        Due.due("a chain", Due.woodOf(six + "W01W12W24W45").all(), 1);
        Due.due("a chain with a SHAM in it", Due.woodOf(six + "W01W12W23W34W45").all(), Due.bits(0, 4));
        Due.due("a ring: the least", Due.woodOf(six + "W12W20W01W54").all(), Due.bits(0, 5));
        Due.due("backwards", Due.woodOf(six + "W54W42W21W10").all(), Due.bits(5));
        Due.due("two that are led to by one", Due.woodOf(six + "W50W51W24").all(), Due.bits(2, 5));
        Due.due("no TRAPS", new TrapsWatchTraps().all(), 0);
        Due.due("SHAMS alone", Due.woodOf("FT0003T0103").all(), 0);
        TrapsWatchTraps x = Due.woodOf(six + "W01W12W24W45G061G01-");
        x.frost(true);
        Due.due("in FROST", x.all(), 0);
        x.frost(false);
        x.step(0, 2);
        x.step(0, 6);
        Due.due("what is woken is left", x.all(), 1);
        x.step(0, 2);
        Due.due("what is left", x.count(3), Due.bits(0, 1, 3));
        Due.due("the rest by one", x.all(), 1);
        x.step(1, 0);
        Due.due("a SNARE", x.count(3), 8);
        Due.due("none is left", x.all(), 0);
        x.arm(4);
        x.arm(0);
        Due.due("with gaps", x.all(), Due.bits(0, 4));
    }

    private static void first() {
        TrapsWatchTraps x = Due.woodOf("FT0001T0100T0202T0303T0404T0503W01W12W20W34W43G050");
        Due.due("first(7)", x.first(7), 7);
        Due.due("first(16)", x.first(16), 16);
        Due.due("first(0)", x.first(0), Due.bits(3, 5));
        Due.due("first(24)", x.first(24), 0);
        Due.due("first(1)", x.first(1), 0);
        Due.due("first(63)", x.first(63), 0);
        Due.due("first(64)", x.first(64), TrapsWatchTraps.OUTSIDE);
        Due.due("first(-1)", x.first(-1), TrapsWatchTraps.OUTSIDE);
        Due.due("first(least)", x.first(Integer.MIN_VALUE), TrapsWatchTraps.OUTSIDE);
        x.frost(true);
        Due.due("in FROST", x.first(7), 7);
        x.frost(false);
        x.step(0, 1);
        Due.due("SPRUNG ones", x.first(7), 7);
        TrapsWatchTraps y = Due.woodOf("FT0000T0100T0200W01W12");
        Due.due("of a chain, the head", y.first(7), 1);
        Due.due("of a chain, the middle", y.first(6), 2);
        Due.due("of a chain, the end", y.first(4), 4);
        Due.due("just that set", y.first(3), 0);
        Due.due("no SHAM", y.first(0), 0);
        Due.due("a bit of no TRAP", y.first(8), TrapsWatchTraps.OUTSIDE);
        Due.due("no TRAPS", new TrapsWatchTraps().first(0), 0);
        Due.due("no TRAPS: first(1)", new TrapsWatchTraps().first(1), TrapsWatchTraps.OUTSIDE);
    }
}
