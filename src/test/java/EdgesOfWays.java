/** The sentences about safe steps, the way they go, and where to look: promises 19 to 21. */
final class EdgesOfWays {
    private static final int NONE = TrapsWatchTraps.NONE, STATE = TrapsWatchTraps.STATE;
    private static final int UNKNOWN = TrapsWatchTraps.UNKNOWN, OUTSIDE = TrapsWatchTraps.OUTSIDE;

    private EdgesOfWays() {
    }

    static void run() {
        fewest();
        shunned();
        beast();
        canNotCome();
        theWay();
        safe();
        safeRefused();
        safeAt();
        safeAtNone();
        safeAtRefused();
        toLook();
        toLookOutside();
    }

    private static void fewest() {
        Sentence.of("Terms", "SAFE: the fewest STEPS of a WALKER that is free to a CELL (0 to where it is),");
        for (int from = 0; from < 12; from++) {
            TrapsWatchTraps x = Due.woodOf("FG" + from / 10 + from % 10 + "0");
            for (int to = 0; to < 12; to++) {
                int steps = Math.abs(from / 4 - to / 4) + Math.abs(from % 4 - to % 4);
                Due.due("safe from " + from + " to " + to, x.safe(0, to), steps);
            }
        }
        // 0 to where it is, though a trap that is shunned lies there.
        TrapsWatchTraps x = Due.woodOf("FT0504G050");
        Due.due("where it is", x.safe(0, 5), 0);
        Due.due("its first CELL", x.safeAt(0, 5, 0), NONE);
        Due.due("off it", x.safe(0, 4), 1);
        TrapsWatchTraps shut = Due.woodOf("FX01X04G000");
        Due.due("shut in, where it is", shut.safe(0, 0), 0);
        // The longest way that there can be: round three closed ones.
        Due.due("eight STEPS", Due.woodOf("FX04X05X06G000").safe(0, 8), 8);
    }

    private static void shunned() {
        Sentence.of("Terms", "none on a CELL of a TRAP that its SIDE KNOWS and that is ARMED and no SHAM");
        for (int kind = 0; kind <= 4; kind++) {
            for (int of = 0; of < 2; of++) {
                // A lane 0, 1, 2 with a trap on 1.
                TrapsWatchTraps x = Due.woodOf("FX04X05X06T01" + of + kind + "G000G001G020");
                boolean isShunned = kind != 3;
                Due.due("the SIDE that set it", x.safe(of, 2), isShunned ? NONE : 2);
                Due.due("the other", x.safe(1 - of, 2), 2);
                Due.due("the TRAP's CELL", x.safe(of, 1), isShunned ? NONE : 1);
                x.look(1 - of, 2);
                Due.due("the other KNOWS it now", x.safe(1 - of, 2), isShunned ? NONE : 2);
                x.frost(true);
                Due.due("in FROST it is ARMED all the same", x.safe(of, 2), isShunned ? NONE : 2);
                x.frost(false);
                x.step(2, 1);
                if (kind == 2) {
                    Due.due("woken, ARMED", x.safe(of, 2), NONE);
                    x.step(2, 2);
                    x.step(2, 1);
                }
                Due.due("not ARMED", x.safe(of, 2), 2);
                if (isShunned) {
                    x.arm(0);
                    Due.due("ARMED anew", x.safe(1 - of, 2), NONE);
                }
            }
        }
        // The way goes round what is known, through what is not.
        TrapsWatchTraps y = Due.woodOf("FT0100T0510G000G001");
        Due.due("POACHERS", y.safe(0, 2), 4);
        Due.due("KEEPERS", y.safe(1, 2), 2);
        Due.due("KEEPERS to 9", y.safe(1, 9), 3);
    }

    private static void beast() {
        Sentence.of("Terms", "(a BEAST KNOWS none);");
        TrapsWatchTraps x = Due.woodOf("FT0104T0414G00-");
        Due.due("to a TRAP", x.safe(0, 1), 1);
        Due.due("over one", x.safe(0, 2), 2);
        x.look(0, 0);
        x.look(1, 0);
        Due.due("both SIDES KNOW them", x.count(5) & x.count(6), 3);
        Due.due("to a TRAP", x.safe(0, 4), 1);
        Due.due("over one", x.safe(0, 11), 5);
        // A net on each cell in turn: none is shunned.
        for (int c = 0; c < 12; c++) {
            String cc = "" + c / 10 + c % 10;
            TrapsWatchTraps y = Due.woodOf("FT" + cc + "04G" + (c < 6 ? "11-" : "00-"));
            int from = c < 6 ? 11 : 0;
            Due.due("to a NET on " + c, y.safe(0, c), Math.abs(from / 4 - c / 4) + Math.abs(from % 4 - c % 4));
        }
        TrapsWatchTraps shut = Due.woodOf("FX01X04G00-");
        Due.due("closed CELLS bar it", shut.safe(0, 2), NONE);
    }

    private static void canNotCome() {
        Sentence.of("Terms", "NONE: it can not come.");
        TrapsWatchTraps x = Due.woodOf("FX05X06X09X10G000G07-");
        for (int c : new int[] {5, 6, 9, 10}) {
            Due.due("a closed CELL " + c, x.safe(0, c), NONE);
            Due.due("its way", x.safeAt(0, c, 0), NONE);
        }
        Due.due("round them", x.safe(0, 11), 5);
        TrapsWatchTraps y = Due.woodOf("FX01X05X09G000");
        for (int c = 0; c < 12; c++) {
            Due.due("a wall: safe(0, " + c + ")", y.safe(0, c), c % 4 == 0 ? c / 4 : NONE);
        }
        TrapsWatchTraps z = Due.woodOf("FT0101T0501T0901G000G001");
        for (int c = 0; c < 12; c++) {
            Due.due("a wall of TRAPS: safe(0, " + c + ")", z.safe(0, c), c % 4 == 0 ? c / 4 : NONE);
            Due.due("not KNOWN: safe(1, " + c + ")", z.safe(1, c), c / 4 + c % 4);
        }
        TrapsWatchTraps all = Due.woodOf("FX00X01X02X03X04X05X06X07X08X09X10G110");
        for (int c = 0; c < 12; c++) Due.due("shut in: safe(0, " + c + ")", all.safe(0, c), c == 11 ? 0 : NONE);
    }

    private static void way(TrapsWatchTraps x, int walker, int cell, int... cells) {
        Due.due("safe(" + walker + ", " + cell + ")", x.safe(walker, cell), cells.length);
        for (int i = 0; i < cells.length; i++) {
            Due.due("safeAt(" + walker + ", " + cell + ", " + i + ")", x.safeAt(walker, cell, i), cells[i]);
        }
        Due.due("no more", x.safeAt(walker, cell, cells.length), NONE);
    }

    private static void theWay() {
        Sentence.of("Terms", "THE WAY: of such ones the first by CELLS.");
        TrapsWatchTraps x = Due.woodOf("FG000G110G080G030");
        way(x, 0, 11, 1, 2, 3, 7, 11);
        way(x, 1, 0, 7, 3, 2, 1, 0);
        way(x, 2, 3, 4, 0, 1, 2, 3);
        way(x, 3, 8, 2, 1, 0, 4, 8);
        way(x, 0, 5, 1, 5);
        way(x, 0, 0);
        // The least first step is no shortest way, or a dead end.
        TrapsWatchTraps y = Due.woodOf("FX02X05G00-");
        way(y, 0, 3, 4, 8, 9, 10, 6, 7, 3);
        TrapsWatchTraps z = Due.woodOf("FT0200G000G001");
        way(z, 0, 3, 1, 5, 6, 7, 3);
        way(z, 1, 3, 1, 2, 3);
        TrapsWatchTraps dead = Due.woodOf("FX02X06G050");
        way(dead, 0, 11, 9, 10, 11);
    }

    private static void safe() {
        Sentence.of("Promise 19", "SAFE; NONE.");
        TrapsWatchTraps x = Due.woodOf("FX05G040");
        Due.due("safe(0, 6)", x.safe(0, 6), 4);
        Due.due("safe(0, 5)", x.safe(0, 5), NONE);
        Twins.neverAChange("safe()", y -> {
            for (int i = 0; i < 48; i++) y.safe(i / 12, i % 12);
        });
    }

    private static void safeRefused() {
        Sentence.of("Promise 19", "UNKNOWN: walker, cell;");
        for (int w : Refusals.NO_WALKERS) Twins.refused("safe(" + w + ", 0)", Twins.BUSY, x -> x.safe(w, 0), UNKNOWN);
        for (int c : Refusals.NO_CELLS) {
            Twins.refused("safe(0, " + c + ")", Twins.BUSY, x -> x.safe(0, c), UNKNOWN);
            Twins.refused("safe(1, " + c + ")", Twins.BUSY, x -> x.safe(1, c), UNKNOWN);
        }
        Twins.refused("safe(1, 0) of one", Twins.SMALL, x -> x.safe(1, 0), UNKNOWN);
        Twins.refused("safe(0, 0) of none", Twins.NEW, x -> x.safe(0, 0), UNKNOWN);
        Sentence.of("Promise 19", "STATE: it is CAUGHT.");
        for (int c = 0; c < 12; c++) {
            int cell = c;
            Twins.refused("safe(0, " + c + ")", Twins.BUSY, x -> x.safe(0, cell), STATE);
        }
    }

    private static void safeAt() {
        Sentence.of("Promise 20", "The i-th CELL (from 0) it comes to by THE WAY;");
        TrapsWatchTraps x = Due.woodOf("FX04X05X06G000G080");
        way(x, 0, 8, 1, 2, 3, 7, 11, 10, 9, 8);
        way(x, 1, 0, 9, 10, 11, 7, 3, 2, 1, 0);
        way(x, 0, 1, 1);
        // Each answer stands by itself, whatever was asked ahead of it.
        TrapsWatchTraps y = Due.woodOf("FG000G110");
        Due.due("the last one first", y.safeAt(0, 11, 4), 11);
        Due.due("the first one then", y.safeAt(0, 11, 0), 1);
        Due.due("of the other", y.safeAt(1, 0, 0), 7);
        Due.due("to another CELL", y.safe(0, 8), 2);
        Due.due("the first once more", y.safeAt(0, 11, 3), 7);
        Twins.neverAChange("safeAt()", z -> {
            for (int i = 0; i < 48; i++) z.safeAt(i / 12, i % 12, i % 5);
        });
    }

    private static void safeAtNone() {
        Sentence.of("Promise 20", "NONE: there are not so many.");
        TrapsWatchTraps x = Due.woodOf("FX05G000");
        for (int c = 0; c < 12; c++) {
            int steps = Math.max(0, x.safe(0, c));
            for (int i : new int[] {steps, steps + 1, 12, 32, 1 << 20, Integer.MAX_VALUE, -1, -9, Integer.MIN_VALUE}) {
                Due.due("safeAt(0, " + c + ", " + i + ")", x.safeAt(0, c, i), NONE);
            }
            if (steps > 0) Due.due("the last one", x.safeAt(0, c, steps - 1), c);
        }
    }

    private static void safeAtRefused() {
        Sentence.of("Promise 20", "UNKNOWN; STATE.");
        for (int i : new int[] {0, 1, 99, -1}) {
            for (int w : Refusals.NO_WALKERS) {
                Twins.refused("safeAt(" + w + ", 0, " + i + ")", Twins.BUSY, x -> x.safeAt(w, 0, i), UNKNOWN);
            }
            for (int c : Refusals.NO_CELLS) {
                Twins.refused("safeAt(1, " + c + ", " + i + ")", Twins.BUSY, x -> x.safeAt(1, c, i), UNKNOWN);
            }
            Twins.refused("safeAt(1, 0, " + i + ") of one", Twins.SMALL, x -> x.safeAt(1, 0, i), UNKNOWN);
            Twins.refused("safeAt(0, 0, " + i + ") of none", Twins.NEW, x -> x.safeAt(0, 0, i), UNKNOWN);
            Twins.refused("safeAt(0, 5, " + i + ")", Twins.BUSY, x -> x.safeAt(0, 5, i), STATE);
            Twins.refused("safeAt(0, 11, " + i + ")", Twins.BUSY, x -> x.safeAt(0, 11, i), STATE);
        }
    }

    private static void toLook() {
        Sentence.of("Promise 21", "TO LOOK.");
        Sentence.of("Terms", "TO LOOK: the CELL from which a SIDE finds most that it does not KNOW;");
        for (int c = 0; c < 12; c++) {
            String cc = "" + c / 10 + c % 10;
            int least = c;
            for (int n = 11; n >= 0; n--) {
                int apart = Math.abs(n / 4 - c / 4) + Math.abs(n % 4 - c % 4);
                least = apart <= 1 ? n : least;
            }
            Due.due("one of KEEPERS on " + c, Due.woodOf("FT" + cc + "10").toLook(0), least);
            Due.due("one of POACHERS on " + c, Due.woodOf("FT" + cc + "00").toLook(1), least);
            Due.due("its own", Due.woodOf("FT" + cc + "00").toLook(0), 0);
        }
        TrapsWatchTraps x = Due.woodOf("FT0610T0710T1010T1110T0003T0114X10");
        Due.due("three", x.toLook(0), 6);
        Due.due("KEEPERS", x.toLook(1), 0);
        Due.due("look(0, 6)", x.look(0, 6), 7);
        Due.due("of what is left", x.toLook(0), 0);
        Due.due("look(0, 0)", x.look(0, 0), 32);
        Due.due("the last one", x.toLook(0), 7);
        Due.due("from a closed CELL", Due.woodOf("FT0510T0110T0610T0910T0410X05").toLook(0), 5);
        Due.due("most, not the first that finds any", Due.woodOf("FT0010T1110T1010T0910").toLook(0), 10);
        Sentence.of("Terms", "of like ones the least.");
        Due.due("no TRAPS", new TrapsWatchTraps().toLook(0), 0);
        Due.due("no TRAPS", new TrapsWatchTraps().toLook(1), 0);
        Due.due("all KNOWN", Due.woodOf("FT1100T1000").toLook(0), 0);
        Due.due("one from 2, 6, 7, 10 as from 6", Due.woodOf("FT0610").toLook(0), 2);
        Due.due("two each from 1 and from 4", Due.woodOf("FT0010T0510").toLook(0), 1);
        Due.due("two each from 7 and from 10", Due.woodOf("FT1110T0610").toLook(0), 7);
        Twins.neverAChange("toLook()", y -> {
            y.toLook(0);
            y.toLook(1);
        });
    }

    private static void toLookOutside() {
        Sentence.of("Promise 21", "OUTSIDE: side.");
        for (int s : Refusals.NO_SIDES) {
            Twins.refused("toLook(" + s + ")", Twins.BUSY, x -> x.toLook(s), OUTSIDE);
            Twins.refused("toLook(" + s + ") of none", Twins.NEW, x -> x.toLook(s), OUTSIDE);
        }
    }
}
