import java.math.BigInteger;

/** The sentences about straying, one trap more, the seed and nights by it: promises 22 to 25. */
final class EdgesOfChances {
    private static final int NONE = TrapsWatchTraps.NONE, STATE = TrapsWatchTraps.STATE, FULL = TrapsWatchTraps.FULL;
    private static final int UNKNOWN = TrapsWatchTraps.UNKNOWN, OUTSIDE = TrapsWatchTraps.OUTSIDE;
    /** Only the upper row is open: 0, 1, 2, 3. */
    private static final String LANE = "FX04X05X06X07";
    private static final int[] NO_STEPS = {-1, 5, 6, -9, 32, 36, 256, Integer.MIN_VALUE, Integer.MAX_VALUE};
    private static final int[] NO_STEPS_FOR_ONE_MORE = {0, -1, 4, 5, -9, 32, 33, Integer.MIN_VALUE, Integer.MAX_VALUE};
    private static final int[] NO_ROUNDS = {0, -1, 41, 42, -9, 64, 72, 297, Integer.MIN_VALUE, Integer.MAX_VALUE};
    private static final long[] SEEDS = {0, 1, -1, 3, 77, Long.MAX_VALUE, Long.MIN_VALUE, 1L << 33, -(1L << 33),
        0x5555555555555555L, 7777777777777777777L, -7777777777777777777L};

    private EdgesOfChances() {
    }

    static void run() {
        fractions();
        straysSteps();
        straysNowhere();
        straysByThen();
        straysChangesTraps();
        straysRefused();
        oneMoreCell();
        oneMoreLeast();
        oneMoreNone();
        oneMoreRefused();
        seed();
        nightRounds();
        nightDraws();
        nightDrawsNone();
        nightCaught();
        nightChangesNothing();
        nightOutside();
    }

    private static void chance(String text, int walker, int n, int upper, int lower) {
        chance(Due.woodOf(text), walker, n, upper, lower);
    }

    private static void chance(TrapsWatchTraps x, int walker, int n, int upper, int lower) {
        Due.due("strays(" + walker + ", " + n + ", true)", x.strays(walker, n, true), upper);
        Due.due("strays(" + walker + ", " + n + ", false)", x.strays(walker, n, false), lower);
    }

    private static void fractions() {
        Sentence.of("Terms", "FRACTIONS are told above (upper = true), below (1 and more), in least terms;");
        // 0 of 1, 1 of 1, what can be made less, what can not.
        chance(LANE + "G000", 0, 4, 0, 1);
        chance(LANE + "T0104G000", 0, 4, 1, 1);
        chance("FT0104T0404G050", 0, 1, 1, 2);
        chance("FT0104T0404T0604G050", 0, 1, 3, 4);
        chance("FT0104T0404T0604T0904G050", 0, 1, 1, 1);
        chance("FT0004T0704G05-", 0, 2, 11, 48);
        chance("FT0004T0704G05-", 0, 4, 2887, 6912);
        for (int c = 0; c < 11; c++) {
            TrapsWatchTraps x = Due.woodOf("FT" + c / 10 + c % 10 + "04T1104G000G05-G101");
            for (int i = 0; i < 15; i++) {
                int upper = x.strays(i / 5, i % 5, true);
                int lower = x.strays(i / 5, i % 5, false);
                Due.dueTrue("0 to 1", upper >= 0 && lower >= 1 && upper <= lower);
                Due.due("least terms", BigInteger.valueOf(upper).gcd(BigInteger.valueOf(lower)).intValue(), 1);
            }
        }
        Sentence.of("Terms", "refusals of them are told likewise.");
        for (boolean upper : new boolean[] {true, false}) {
            Twins.refused("UNKNOWN", Twins.BUSY, x -> x.strays(4, 1, upper), UNKNOWN);
            Twins.refused("OUTSIDE", Twins.BUSY, x -> x.strays(1, 5, upper), OUTSIDE);
            Twins.refused("STATE", Twins.BUSY, x -> x.strays(0, 1, upper), STATE);
        }
    }

    private static void straysSteps() {
        Sentence.of("Promise 22", "STRAYING.");
        Sentence.of("Terms", "STRAYING: a WALKER that is free makes n STEPS (0 to 4), each to any NEIGHBOUR on which one can step, "
                + "as likely each");
        // A lane of four with a net at its end: it must go straight, then there and back.
        int[][] due = {{0, 1}, {0, 1}, {0, 1}, {1, 4}, {1, 4}};
        for (int n = 0; n <= 4; n++) chance(LANE + "T0304G000", 0, n, due[n][0], due[n][1]);
        int[][] near = {{0, 1}, {0, 1}, {1, 2}, {1, 2}, {3, 4}};
        for (int n = 0; n <= 4; n++) chance(LANE + "T0204G000", 0, n, near[n][0], near[n][1]);
        // One of 2, 3, 4 neighbours, closed ones not counted.
        chance("FT0104G000", 0, 1, 1, 2);
        chance("FT0004G010", 0, 1, 1, 3);
        chance("FT0104G050", 0, 1, 1, 4);
        chance("FT0104X04G050", 0, 1, 1, 3);
        chance("FT0104X04X06G050", 0, 1, 1, 2);
        chance("FT0104X04X06X09G050", 0, 1, 1, 1);
        // Not on a closed one, though a net lies there; not across the end of a row.
        chance("FT0104X01G000", 0, 4, 0, 1);
        chance("FT0404G030", 0, 1, 0, 1);
        chance("FT0304G040", 0, 1, 0, 1);
        chance("FT0804G070", 0, 1, 0, 1);
        // No step: not caught, though it stands on a net.
        chance("FT0004G000", 0, 0, 0, 1);
        chance("FT0004G000", 0, 1, 0, 1);
        chance("FT0004G000", 0, 2, 1, 3);
        Twins.neverAChange("strays()", x -> {
            for (int i = 0; i < 20; i++) x.strays(i / 5, i % 5, i % 2 == 0);
        });
    }

    private static void straysNowhere() {
        Sentence.of("Terms", "(none, if there is no such; it stays where it is CAUGHT):");
        for (int n = 0; n <= 4; n++) {
            chance("FX01X04T0004T0104G000", 0, n, 0, 1);
            chance("FX00X01X02X03X04X05X06X07X08X09X10T1104G110", 0, n, 0, 1);
            // Caught by its first step, it makes no other: not less likely by more steps.
            chance(LANE + "T0104G000", 0, n, n == 0 ? 0 : 1, 1);
            chance("FT0104T0404G000", 0, n, n == 0 ? 0 : 1, 1);
        }
        // Had it gone on, it would have sprung the second one, too: the first has it for good.
        chance(LANE + "T0104T0201W10G000", 0, 4, 1, 1);
    }

    private static void straysByThen() {
        Sentence.of("Terms", "the chance that it is CAUGHT by then");
        // Whom a kind catches: snares men, nets all, wires and shams nobody.
        int[][] men = {{1, 1}, {0, 1}, {0, 1}, {0, 1}, {1, 1}};
        for (int kind = 0; kind <= 4; kind++) {
            chance(LANE + "T010" + kind + "G000", 0, 1, men[kind][0], men[kind][1]);
            chance(LANE + "T010" + kind + "G001", 0, 1, men[kind][0], men[kind][1]);
            chance(LANE + "T010" + kind + "G00-", 0, 1, kind == 4 ? 1 : 0, 1);
        }
        // Each walker by what it is itself, whoever is told ahead of it or was asked for.
        TrapsWatchTraps both = Due.woodOf(LANE + "T0100G000G00-G001");
        chance(both, 0, 1, 1, 1);
        chance(both, 1, 1, 0, 1);
        chance(both, 2, 1, 1, 1);
        chance(both, 1, 4, 0, 1);
        TrapsWatchTraps beastFirst = Due.woodOf(LANE + "T0100G00-G000");
        chance(beastFirst, 1, 1, 1, 1);
        chance(beastFirst, 0, 1, 0, 1);
        // In frost nothing springs.
        for (int kind = 0; kind <= 4; kind++) {
            TrapsWatchTraps x = Due.woodOf(LANE + "T010" + kind + "G000");
            x.frost(true);
            for (int n = 0; n <= 4; n++) chance(x, 0, n, 0, 1);
        }
    }

    private static void straysChangesTraps() {
        Sentence.of("Terms", "(others stand still; TRAPS are as now, and then as its STEPS make them).");
        // Others on the way, and on traps, make no odds: they wake nothing, they spring nothing.
        chance(LANE + "T0304G000G01-G020G031", 0, 3, 1, 4);
        chance(LANE + "T0102G000G010G020", 0, 2, 0, 1);
        // As now: not armed, woken, armed anew.
        TrapsWatchTraps x = Due.woodOf(LANE + "T0102G000G02-");
        chance(x, 0, 1, 0, 1);
        chance(x, 0, 2, 0, 1);
        // Back from 0 it comes for sure, from 2 by one of two ways.
        chance(x, 0, 3, 3, 4);
        x.step(1, 1);
        chance(x, 0, 1, 1, 1);
        x.step(1, 2);
        x.step(1, 1);
        Due.due("not ARMED", x.count(3), 0);
        chance(x, 0, 4, 0, 1);
        x.arm(0);
        chance(x, 0, 1, 0, 1);
        chance(x, 0, 2, 0, 1);
        // Back from 0 it comes for sure, from 2 by one of two ways.
        chance(x, 0, 3, 3, 4);
        // As its steps make them: a wire sets off what it would have come to, a trap that it springs is gone.
        chance(LANE + "T0101T0200W01G000", 0, 4, 0, 1);
        chance(LANE + "T0101T0200G000", 0, 2, 1, 2);
        chance(LANE + "T0100T0204W01G00-", 0, 4, 0, 1);
        chance(LANE + "T0100T0204G00-", 0, 2, 1, 2);
        // A step on a trap that does not catch it is a step, too.
        chance(LANE + "T0101T0304G000", 0, 2, 0, 1);
        chance(LANE + "T0101T0304G000", 0, 3, 1, 4);
        chance(LANE + "T0102T0304G00-", 0, 2, 0, 1);
        chance(LANE + "T0103T0304G000", 0, 2, 0, 1);
        // What is woken stays woken when another springs: back from 0, where the wire is, for sure; from 2 by one of two.
        chance(LANE + "T0102T0001G000", 0, 3, 3, 4);
        // What it sets off is two wires away, and what is not wired stays.
        chance(LANE + "T0101T0801T0200W01W12G000", 0, 4, 0, 1);
        chance(LANE + "T0101T0801T0200W12G000", 0, 2, 1, 2);
        // A sham passes nothing on; a double one that is only woken does not, either.
        chance(LANE + "T0103T0200W01G000", 0, 2, 1, 2);
        chance(LANE + "T0102T0204W01G00-", 0, 2, 1, 2);
        // A double one set off is gone, not woken.
        chance(LANE + "T0101T0202W01G000", 0, 4, 0, 1);
        // Woken on 2 (1/2), then from 3 for sure, from 1 by one of two ways.
        chance(LANE + "T0101T0202G000", 0, 4, 3, 8);
        // Each way by itself: what one way springs is armed on the other.
        chance("FX05X09T0101T0404T0201W01G000G00-", 0, 1, 1, 2);
        chance("FX05X09T0101T0804W01G000", 0, 2, 1, 4);
    }

    private static void straysRefused() {
        Sentence.of("Promise 22", "UNKNOWN; OUTSIDE: n; STATE: it is CAUGHT.");
        for (boolean upper : new boolean[] {true, false}) {
            for (int w : Refusals.NO_WALKERS) {
                Twins.refused("strays(" + w + ", 0)", Twins.BUSY, x -> x.strays(w, 0, upper), UNKNOWN);
            }
            Twins.refused("strays(1, 0) of one", Twins.SMALL, x -> x.strays(1, 0, upper), UNKNOWN);
            Twins.refused("strays(0, 0) of none", Twins.NEW, x -> x.strays(0, 0, upper), UNKNOWN);
            for (int n : NO_STEPS) {
                Twins.refused("strays(1, " + n + ")", Twins.BUSY, x -> x.strays(1, n, upper), OUTSIDE);
            }
            for (int n = 0; n <= 4; n++) {
                int steps = n;
                Twins.refused("strays(0, " + n + ")", Twins.BUSY, x -> x.strays(0, steps, upper), STATE);
            }
        }
    }

    private static void oneMoreCell() {
        Sentence.of("Promise 23", "ONE MORE; NONE.");
        Sentence.of("Terms", "ONE MORE for a WALKER that strays n STEPS (1 to 3): the CELL without a TRAP, on which one can step, on "
                + "which a NET (that sets off nothing) makes that chance greatest;");
        for (char who : new char[] {'0', '1', '-'}) {
            Due.due("the only way", Due.woodOf(LANE + "G00" + who).oneMore(0, 1), 1);
            Due.due("two STEPS", Due.woodOf(LANE + "G00" + who).oneMore(0, 2), 1);
            Due.due("three STEPS", Due.woodOf(LANE + "G00" + who).oneMore(0, 3), 1);
            Due.due("beside a TRAP", Due.woodOf("FT0104G00" + who).oneMore(0, 1), 4);
            Due.due("where it comes back to", Due.woodOf("FG05" + who).oneMore(0, 2), 5);
            // A sham on the way is a trap: no net can be set there; the next best is behind it, or where it was.
            Due.due("not on a SHAM", Due.woodOf(LANE + "T0103G00" + who).oneMore(0, 2), 0);
            Due.due("not on a SHAM", Due.woodOf(LANE + "T0103X00G01" + who).oneMore(0, 2), 2);
        }
        // Not where nobody can step, though it is the least; not on a trap that is not armed.
        Due.due("the least is closed", Due.woodOf("FX00X01X04G050").oneMore(0, 1), 6);
        TrapsWatchTraps x = Due.woodOf(LANE + "T0101G000");
        x.step(0, 1);
        x.step(0, 0);
        Due.due("a TRAP that is not ARMED", x.oneMore(0, 2), 0);
        // What the others do counts: with a snare on 1, the net is best where that does not catch it.
        Due.due("beside a SNARE", Due.woodOf("FT0100G000").oneMore(0, 3), 4);
        Due.due("a SNARE has no BEAST", Due.woodOf("FT0100G00-").oneMore(0, 1), 4);
        Due.due("with five", Due.woodOf("FT0003T0203T0303T0703T1103G010").oneMore(0, 1), 5);
        Twins.neverAChange("oneMore()", y -> {
            for (int i = 0; i < 12; i++) y.oneMore(i / 3, 1 + i % 3);
        });
    }

    private static void oneMoreLeast() {
        Sentence.of("Terms", "of like ones the least;");
        Due.due("of two", Due.woodOf("FG000").oneMore(0, 1), 1);
        Due.due("of two", Due.woodOf("FG110").oneMore(0, 1), 7);
        Due.due("of four", Due.woodOf("FG060").oneMore(0, 1), 2);
        Due.due("shut in: none helps", Due.woodOf("FX01X04G000").oneMore(0, 3), 0);
        Due.due("shut in: none helps", Due.woodOf("FX00X10X07G110").oneMore(0, 3), 1);
        Due.due("it is sure as it is", Due.woodOf(LANE + "X00T0204X08G030").oneMore(0, 1), 1);
        for (int n = 1; n <= 3; n++) {
            TrapsWatchTraps x = Due.woodOf("FX00G050");
            x.frost(true);
            Due.due("in FROST none helps", x.oneMore(0, n), 1);
        }
    }

    private static void oneMoreNone() {
        Sentence.of("Terms", "NONE: there is no such CELL.");
        String none = "FX00X01X02X03X04X05X06X07X08X09T1003T1103G110";
        for (int n = 1; n <= 3; n++) {
            Due.due("traps on all that are open", Due.woodOf(none).oneMore(0, n), NONE);
            Due.due("one is left", Due.woodOf(none.replace("T1003", "")).oneMore(0, n), 10);
            Due.due("one is left, where it is", Due.woodOf(none.replace("T1103", "")).oneMore(0, n), 11);
            Due.due("the first is left", Due.woodOf(none.replace("X00", "")).oneMore(0, n), 0);
        }
        Due.due("four TRAPS", Due.woodOf("FX00X01X02X03X04X05X06X07T0800T0900T1003T1103G110").oneMore(0, 1), NONE);
        Due.due("traps on closed ones", Due.woodOf("FX00X01X02X03X04X05X06X07X08X09X10T1103T0000G110").oneMore(0, 1), NONE);
    }

    private static void oneMoreRefused() {
        Sentence.of("Promise 23", "UNKNOWN; OUTSIDE: n; STATE: it is CAUGHT; FULL: 6 TRAPS.");
        Twins.Run five = x -> {
            Due.tell(x, "FT0500T0614T0100T1103T0810W01W12G041G061");
            x.wood();
            x.step(0, 5);
        };
        for (int n = 1; n <= 3; n++) {
            int steps = n;
            for (int w : Refusals.NO_WALKERS) {
                Twins.refused("oneMore(" + w + ", " + n + ")", Twins.BUSY, x -> x.oneMore(w, steps), UNKNOWN);
            }
            Twins.refused("oneMore(1, " + n + ") of one", Twins.SMALL, x -> x.oneMore(1, steps), UNKNOWN);
            Twins.refused("oneMore(0, " + n + ") of none", Twins.NEW, x -> x.oneMore(0, steps), UNKNOWN);
            Twins.refused("oneMore(0, " + n + ")", Twins.BUSY, x -> x.oneMore(0, steps), STATE);
            Twins.refused("oneMore(0, " + n + ") with five", five, x -> x.oneMore(0, steps), STATE);
            for (int w = 1; w < 4; w++) {
                int walker = w;
                Twins.refused("oneMore(" + w + ", " + n + ")", Twins.BUSY, x -> x.oneMore(walker, steps), FULL);
            }
        }
        for (int n : NO_STEPS_FOR_ONE_MORE) {
            for (int w = 0; w < 4; w++) {
                int walker = w;
                Twins.refused("oneMore(" + w + ", " + n + ")", Twins.BUSY, x -> x.oneMore(walker, n), OUTSIDE);
            }
            Twins.refused("oneMore(0, " + n + ")", Twins.SMALL, x -> x.oneMore(0, n), OUTSIDE);
        }
        TrapsWatchTraps x = new TrapsWatchTraps();
        five.on(x);
        x.free(0);
        Due.dueTrue("with five, free", x.oneMore(0, 1) >= 0);
        // Six traps are too many, armed or not, where nobody can step or not.
        TrapsWatchTraps six = Due.woodOf("FT0003T0103T0203T0303T0403T0501X00X01G060");
        six.step(0, 5);
        Due.due("with six", six.oneMore(0, 1), FULL);
    }

    private static void seed() {
        Sentence.of("Promise 24", "THE SEED is v: what it was.");
        TrapsWatchTraps x = new TrapsWatchTraps();
        long was = 0;
        for (long v : SEEDS) {
            Due.due("seed(" + v + ")", x.seed(v), was);
            was = v;
        }
        Due.due("no ACT", x.count(8), 0);
        Twins.noChange("seed() and back", Twins.BUSY, y -> {
            Due.due("seed(5)", y.seed(5), 77);
            Due.due("seed(77)", y.seed(77), 5);
        });
    }

    private static BigInteger next(BigInteger x) {
        BigInteger all = BigInteger.ONE.shiftLeft(64);
        return x.multiply(new BigInteger("6364136223846793005")).add(new BigInteger("1442695040888963407")).mod(all);
    }

    private static BigInteger unsigned(long v) {
        return BigInteger.valueOf(v).mod(BigInteger.ONE.shiftLeft(64));
    }

    private static long after(long seed, int draws) {
        BigInteger x = unsigned(seed);
        for (int i = 0; i < draws; i++) x = next(x);
        return x.longValue();
    }

    /** The cells that one comes to from a cell in an open wood. */
    private static int[] near(int cell) {
        int near = 0;
        for (int c = 0; c < 12; c++) near |= Math.abs(c / 4 - cell / 4) + Math.abs(c % 4 - cell % 4) == 1 ? 1 << c : 0;
        int[] cells = new int[Integer.bitCount(near)];
        int n = 0;
        for (int c = 0; c < 12; c++) {
            if ((near >> c & 1) != 0) cells[n++] = c;
        }
        return cells;
    }

    /** Walkers in an open wood with one net, as the document has it: who is caught, and how many draws that took. */
    private static int[] strayed(long seed, int m, int net, int... at) {
        BigInteger x = unsigned(seed);
        int caught = 0;
        int draws = 0;
        for (int round = 0; round < m; round++) {
            for (int w = 0; w < at.length; w++) {
                // The net springs once, and has all that stand there then.
                if ((caught >> w & 1) != 0) continue;
                int[] ways = near(at[w]);
                x = next(x);
                draws++;
                at[w] = ways[x.shiftRight(33).mod(BigInteger.valueOf(ways.length)).intValue()];
                if (at[w] == net && caught == 0) {
                    for (int o = 0; o < at.length; o++) caught |= at[o] == net ? 1 << o : 0;
                }
            }
        }
        return new int[] {caught, draws};
    }

    private static void nightRounds() {
        Sentence.of("Promise 25", "A NIGHT, as bits.");
        Sentence.of("Terms", "A NIGHT by THE SEED: m times (1 to 40) all WALKERS that are free, by number, stray a STEP:");
        for (long seed : SEEDS) {
            TrapsWatchTraps x = Due.woodOf("FT0604G000G11-G081");
            for (int m = 1; m <= 40; m++) {
                int[] due = strayed(seed, m, 6, 0, 11, 8);
                x.seed(seed);
                Due.due("night(" + m + ") of " + seed, x.night(m), due[0]);
                Due.due("draws of night(" + m + ") of " + seed, x.seed(0), after(seed, due[1]));
            }
        }
        // One that is caught in a round ahead of its turn does not stray any more.
        TrapsWatchTraps y = Due.woodOf(LANE + "X02T0101T1104W01G000G110G11-");
        y.seed(9);
        Due.due("night(1)", y.night(1), 6);
        Due.due("a draw of the first alone", y.seed(9), after(9, 1));
        Due.due("night(40)", y.night(40), 6);
        Due.due("draws of the first alone", y.seed(9), after(9, 40));
        // By number: here the one on the net has gone when the other springs it.
        TrapsWatchTraps z = Due.woodOf(LANE + "X02T0101T1104W01G110G000");
        z.seed(9);
        Due.due("gone in time", z.night(1), 0);
        Due.due("draws of both", z.seed(9), after(9, 2));
    }

    private static void nightDraws() {
        Sentence.of("Terms", "by x (THE SEED, a long; 0 at first), that becomes x times 6364136223846793005 and "
                + "1442695040888963407 (64 bits, wrapping):");
        Due.due("at first", new TrapsWatchTraps().seed(0), 0);
        TrapsWatchTraps first = Due.woodOf("FG000");
        Due.due("night(1)", first.night(1), 0);
        Due.due("the seed of 0", first.seed(0), 1442695040888963407L);
        for (long seed : SEEDS) {
            TrapsWatchTraps x = Due.woodOf("FG000");
            x.seed(seed);
            for (int i = 1; i <= 20; i++) x.night(1);
            Due.due("20 nights of " + seed, x.seed(seed), after(seed, 20));
            x.night(40);
            Due.due("a night of 40 of " + seed, x.seed(seed), after(seed, 40));
        }
        Sentence.of("Terms", "its upper 31 bits by how many CELLS it can step on, what is left counts these by number");
        // A net on each neighbour in turn: which one it comes to is told by the draw.
        int[] homes = {0, 1, 5, 6, 11};
        for (int home : homes) {
            int[] ways = near(home);
            for (int i = 0; i < ways.length; i++) {
                String net = "" + ways[i] / 10 + ways[i] % 10;
                TrapsWatchTraps x = Due.woodOf("FT" + net + "04G" + home / 10 + home % 10 + "-");
                for (int k = 0; k < 60; k++) {
                    long seed = SEEDS[k % SEEDS.length] + 1000003L * k * k * k;
                    x.seed(seed);
                    int drawn = next(unsigned(seed)).shiftRight(33).mod(BigInteger.valueOf(ways.length)).intValue();
                    Due.due("from " + home + " to " + ways[i] + " by " + seed, x.night(1), drawn == i ? 1 : 0);
                }
            }
        }
        // Closed ones are not counted: 5 has 4, 9 left.
        TrapsWatchTraps y = Due.woodOf("FX01X06T0904G050");
        for (int k = 0; k < 60; k++) {
            y.seed(k * 1000000007L);
            int drawn = next(unsigned(k * 1000000007L)).shiftRight(33).mod(BigInteger.TWO).intValue();
            Due.due("of two left", y.night(1), drawn);
        }
    }

    private static void nightDrawsNone() {
        Sentence.of("Terms", "(none drawn, if there is none):");
        TrapsWatchTraps none = new TrapsWatchTraps();
        none.seed(9);
        Due.due("no WALKERS", none.night(40), 0);
        Due.due("THE SEED", none.seed(9), 9);
        TrapsWatchTraps shut = Due.woodOf("FX01X04T0004G000G00-");
        shut.seed(9);
        Due.due("shut in", shut.night(40), 0);
        Due.due("THE SEED", shut.seed(9), 9);
        TrapsWatchTraps one = Due.woodOf("FX01X04G000G110G000");
        one.seed(9);
        Due.due("one of three can step", one.night(7), 0);
        Due.due("its draws", one.seed(9), after(9, 7));
        TrapsWatchTraps caught = Due.woodOf("FT0104G000");
        caught.step(0, 1);
        caught.seed(9);
        Due.due("CAUGHT", caught.night(40), 1);
        Due.due("THE SEED", caught.seed(9), 9);
    }

    private static void nightCaught() {
        Sentence.of("Terms", "who is CAUGHT then (bits).");
        TrapsWatchTraps x = Due.woodOf(LANE + "X02T0104G000G00-G010G110");
        Due.due("the first one, and who is on it then", x.night(1), Due.bits(0, 2));
        TrapsWatchTraps four = Due.woodOf(LANE + "X02T0104G010G01-G011G000");
        Due.due("the last one, as all others have left it", four.night(1), Due.bits(3));
        // Those caught ahead of it are caught then, too.
        TrapsWatchTraps y = Due.woodOf("FT0504T0104T0404W01W02G060G11-");
        y.step(0, 5);
        y.frost(true);
        Due.due("CAUGHT ahead of it", y.night(40), 1);
        // By kinds: a wire nobody, a sham nobody, a double one by the second that comes.
        int[] due = {1, 0, 3, 0, 1};
        for (int kind = 0; kind <= 4; kind++) {
            TrapsWatchTraps z = Due.woodOf(LANE + "X02T010" + kind + "G000G001G00-");
            Due.due("KIND " + kind, z.night(1), due[kind]);
            z.frost(true);
            Due.due("KIND " + kind + " in FROST", z.night(40), 0);
        }
    }

    private static void nightChangesNothing() {
        Sentence.of("Terms", "(Nothing changes but THE SEED.)");
        for (int m : new int[] {1, 2, 40}) {
            Twins.neverAChange("night(" + m + ")", x -> {
                long was = x.seed(0);
                x.seed(was);
                Due.dueTrue("night(" + m + ")", x.night(m) >= 0);
                x.seed(was);
            });
        }
        Twins.noChange("a night without FROST", Twins.BUSY, x -> {
            x.frost(false);
            Due.dueTrue("night(40)", x.night(40) > 0);
            x.frost(true);
            x.seed(77);
        });
    }

    private static void nightOutside() {
        Sentence.of("Promise 25", "OUTSIDE: m.");
        for (int m : NO_ROUNDS) {
            Twins.refused("night(" + m + ")", Twins.NEW, x -> x.night(m), OUTSIDE);
            Twins.refused("night(" + m + ")", Twins.SMALL, x -> x.night(m), OUTSIDE);
            Twins.refused("night(" + m + ")", Twins.BUSY, x -> x.night(m), OUTSIDE);
        }
    }
}
