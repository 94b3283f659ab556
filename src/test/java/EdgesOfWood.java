/** The sentences about cells, sides, traps, walkers and frost, as they can be asked for: promises 6 to 9. */
final class EdgesOfWood {
    private static final int NONE = TrapsWatchTraps.NONE, STATE = TrapsWatchTraps.STATE;
    private static final int UNKNOWN = TrapsWatchTraps.UNKNOWN, OUTSIDE = TrapsWatchTraps.OUTSIDE;
    private static final String SIX = "FT0000T0111T0202T0313T0404T1110W01W02W03W04W05W12";

    private EdgesOfWood() {
    }

    static void run() {
        cells();
        neighbours();
        sides();
        trap();
        trapRefused();
        walker();
        walkerRefused();
        near();
        nearRefused();
        frost();
        frostAtFirst();
    }

    private static void cells() {
        Sentence.of("Terms", "CELLS are 0 to 11:");
        TrapsWatchTraps x = Due.woodOf("FG000G110");
        for (int c = 0; c < 12; c++) {
            Due.dueTrue("near(" + c + ")", x.near(c) > 0);
            Due.dueTrue("safe(0, " + c + ")", x.safe(0, c) >= 0);
            Due.due("look(0, " + c + ")", x.look(0, c), 0);
        }
        for (int c : Refusals.NO_CELLS) {
            Due.due("near(" + c + ")", x.near(c), UNKNOWN);
            Due.due("safe(0, " + c + ")", x.safe(0, c), UNKNOWN);
            Due.due("safeAt(0, " + c + ", 0)", x.safeAt(0, c, 0), UNKNOWN);
            Due.due("look(0, " + c + ")", x.look(0, c), UNKNOWN);
            Due.due("step(0, " + c + ")", x.step(0, c), UNKNOWN);
        }
    }

    private static void neighbours() {
        Sentence.of("Terms", "four columns, three rows, row by row from the top; those next to each other in a row or a "
                + "column are NEIGHBOURS.");
        for (int from = 0; from < 12; from++) {
            int near = 0;
            for (int to = 0; to < 12; to++) {
                int apart = Math.abs(from / 4 - to / 4) + Math.abs(from % 4 - to % 4);
                near |= apart == 1 ? 1 << to : 0;
                String cell = "" + from / 10 + from % 10;
                TrapsWatchTraps x = Due.woodOf("FG" + cell + "0");
                Due.due("step " + from + " to " + to, x.step(0, to), apart == 1 ? 0 : STATE);
                Due.due("where it is", x.walker(0, 0), apart == 1 ? to : from);
                TrapsWatchTraps y = Due.woodOf("FT" + cell + "00");
                Due.due("look of " + to + " at " + from, y.look(1, to), apart <= 1 ? 1 : 0);
            }
            Due.due("near(" + from + ")", new TrapsWatchTraps().near(from), near);
        }
        // The end of a row is not next to the first of the one below it, nor the bottom to the top.
        TrapsWatchTraps x = new TrapsWatchTraps();
        for (int[] pair : new int[][] {{3, 4}, {7, 8}, {0, 3}, {8, 11}, {0, 8}, {3, 11}, {0, 11}}) {
            Due.due("near " + pair[0], x.near(pair[0]) >> pair[1] & 1, 0);
            Due.due("near " + pair[1], x.near(pair[1]) >> pair[0] & 1, 0);
        }
    }

    private static void sides() {
        Sentence.of("Terms", "SIDES are 0 (POACHERS), 1 (KEEPERS).");
        TrapsWatchTraps x = Due.woodOf("FT0500T0910G040G081");
        Due.due("a TRAP of POACHERS", x.trap(0, 1), 0);
        Due.due("a TRAP of KEEPERS", x.trap(1, 1), 1);
        Due.due("a POACHER", x.walker(0, 1), 0);
        Due.due("a KEEPER", x.walker(1, 1), 1);
        Due.due("POACHERS KNOW", x.count(5), 1);
        Due.due("KEEPERS KNOW", x.count(6), 2);
        Due.due("look(0, 9)", x.look(0, 9), 2);
        Due.due("look(1, 9)", x.look(1, 9), 1);
        for (int side : Refusals.NO_SIDES) {
            Due.due("look(" + side + ", 9)", x.look(side, 9), OUTSIDE);
            Due.due("toLook(" + side + ")", x.toLook(side), OUTSIDE);
        }
    }

    private static void trap() {
        Sentence.of("Promise 6", "Of a TRAP its CELL (what = 0), SIDE (1), KIND (2), what it sets off (3: bits),");
        TrapsWatchTraps x = Due.woodOf(SIX);
        int[][] want = {{0, 0, 0, 62}, {1, 1, 1, 4}, {2, 0, 2, 0}, {3, 1, 3, 0}, {4, 0, 4, 0}, {11, 1, 0, 0}};
        for (int t = 0; t < 6; t++) {
            for (int what = 0; what < 4; what++) Due.due("trap(" + t + ", " + what + ")", x.trap(t, what), want[t][what]);
        }
        Sentence.of("Promise 6", "whether it is ARMED (4: 1, 0), woken (5: 1, 0), which SIDES KNOW it (6: bits).");
        TrapsWatchTraps y = Due.woodOf("FT0502T0613T0711G040");
        int[][] first = {{1, 0, 1}, {1, 0, 2}, {1, 0, 2}};
        asked(y, first);
        y.step(0, 5);
        asked(y, new int[][] {{1, 1, 1}, {1, 0, 2}, {1, 0, 2}});
        y.look(0, 6);
        asked(y, new int[][] {{1, 1, 1}, {1, 0, 3}, {1, 0, 3}});
        y.step(0, 6);
        asked(y, new int[][] {{1, 1, 1}, {1, 0, 3}, {1, 0, 3}});
        y.step(0, 7);
        asked(y, new int[][] {{1, 1, 1}, {1, 0, 3}, {0, 0, 3}});
        y.step(0, 6);
        y.step(0, 5);
        asked(y, new int[][] {{0, 0, 3}, {1, 0, 3}, {0, 0, 3}});
        Twins.neverAChange("trap()", z -> {
            for (int i = 0; i < 42; i++) z.trap(i / 7, i % 7);
        });
    }

    private static void asked(TrapsWatchTraps x, int[][] want) {
        for (int t = 0; t < want.length; t++) {
            for (int i = 0; i < 3; i++) Due.due("trap(" + t + ", " + (4 + i) + ")", x.trap(t, 4 + i), want[t][i]);
        }
    }

    private static void trapRefused() {
        Sentence.of("Promise 6", "UNKNOWN; OUTSIDE.");
        for (int what = -1; what <= 7; what++) {
            int asked = what;
            for (int t : Refusals.NO_TRAPS) {
                Twins.refused("trap(" + t + ", " + what + ")", Twins.BUSY, x -> x.trap(t, asked), UNKNOWN);
            }
            Twins.refused("trap(2, " + what + ") of two", Twins.SMALL, x -> x.trap(2, asked), UNKNOWN);
            Twins.refused("trap(0, " + what + ") of none", Twins.NEW, x -> x.trap(0, asked), UNKNOWN);
        }
        for (int what : new int[] {-1, 7, 8, -9, 32, 36, 38, 256, Integer.MIN_VALUE, Integer.MAX_VALUE}) {
            for (int t = 0; t < 6; t++) {
                int trap = t;
                Twins.refused("trap(" + t + ", " + what + ")", Twins.BUSY, x -> x.trap(trap, what), OUTSIDE);
            }
        }
    }

    private static void walker() {
        Sentence.of("Promise 7", "Of a WALKER its CELL (what = 0), SIDE (1; NONE: a BEAST), whether it is CAUGHT (2: 1, 0), by "
                + "which TRAP (3; NONE).");
        TrapsWatchTraps x = Due.woodOf("FT0103T0714T0610T0514W13W32G000G111G11-G021");
        int[][] told = {{0, 0, 0, NONE}, {11, 1, 0, NONE}, {11, NONE, 0, NONE}, {2, 1, 0, NONE}};
        walkers(x, told);
        x.step(2, 7);
        walkers(x, new int[][] {told[0], told[1], {7, NONE, 1, 1}, told[3]});
        // By trap 0 and by trap 5, the first and the last of all.
        TrapsWatchTraps y = Due.woodOf("FT0104T0200T0300T0400T0500T0600W05G000G061");
        Due.due("step", y.step(0, 1), Due.bits(0, 5));
        walkers(y, new int[][] {{1, 0, 1, 0}, {6, 1, 1, 5}});
        y.free(0);
        y.free(1);
        walkers(y, new int[][] {{1, 0, 0, NONE}, {6, 1, 0, NONE}});
        Twins.neverAChange("walker()", z -> {
            for (int i = 0; i < 16; i++) z.walker(i / 4, i % 4);
        });
    }

    private static void walkers(TrapsWatchTraps x, int[][] want) {
        for (int w = 0; w < want.length; w++) {
            for (int what = 0; what < 4; what++) {
                Due.due("walker(" + w + ", " + what + ")", x.walker(w, what), want[w][what]);
            }
        }
    }

    private static void walkerRefused() {
        Sentence.of("Promise 7", "UNKNOWN; OUTSIDE.");
        for (int what = -1; what <= 4; what++) {
            int asked = what;
            for (int w : Refusals.NO_WALKERS) {
                Twins.refused("walker(" + w + ", " + what + ")", Twins.BUSY, x -> x.walker(w, asked), UNKNOWN);
            }
            Twins.refused("walker(1, " + what + ") of one", Twins.SMALL, x -> x.walker(1, asked), UNKNOWN);
            Twins.refused("walker(0, " + what + ") of none", Twins.NEW, x -> x.walker(0, asked), UNKNOWN);
        }
        for (int what : new int[] {-1, 4, 5, -9, 32, 35, 256, Integer.MIN_VALUE, Integer.MAX_VALUE}) {
            for (int w = 0; w < 4; w++) {
                int walker = w;
                Twins.refused("walker(" + w + ", " + what + ")", Twins.BUSY, x -> x.walker(walker, what), OUTSIDE);
            }
        }
    }

    private static void near() {
        Sentence.of("Promise 8", "Which CELLS one can step on from a CELL, as bits.");
        String closed = "FX00X01X02X03X04X05X06X07X08X09X10X11";
        TrapsWatchTraps all = Due.woodOf(closed);
        for (int c = 0; c < 12; c++) {
            Due.due("all closed: near(" + c + ")", all.near(c), 0);
            // But for one: it can be stepped on from each of its neighbours, closed ones, too.
            String butOne = closed.replace("X" + c / 10 + c % 10, "");
            TrapsWatchTraps x = Due.woodOf(butOne);
            for (int from = 0; from < 12; from++) {
                int apart = Math.abs(from / 4 - c / 4) + Math.abs(from % 4 - c % 4);
                Due.due("only " + c + ": near(" + from + ")", x.near(from), apart == 1 ? 1 << c : 0);
            }
        }
        // Traps and walkers bar nobody.
        TrapsWatchTraps y = Due.woodOf("FT0104T0404T0611G050G05-G091G010");
        Due.due("near(5)", y.near(5), Due.bits(1, 4, 6, 9));
        Due.due("near(0)", y.near(0), Due.bits(1, 4));
        Twins.neverAChange("near()", z -> {
            for (int c = 0; c < 12; c++) z.near(c);
        });
    }

    private static void nearRefused() {
        Sentence.of("Promise 8", "UNKNOWN.");
        for (int c : Refusals.NO_CELLS) {
            Twins.refused("near(" + c + ")", Twins.NEW, x -> x.near(c), UNKNOWN);
            Twins.refused("near(" + c + ")", Twins.BUSY, x -> x.near(c), UNKNOWN);
        }
    }

    private static void frost() {
        Sentence.of("Promise 9", "There is FROST, or not: 1 if that is otherwise than it was, 0.");
        TrapsWatchTraps x = new TrapsWatchTraps();
        boolean was = false;
        for (boolean is : new boolean[] {false, false, true, true, true, false, false, true, false, true, true}) {
            Due.due("frost(" + is + ") of " + was, x.frost(is), is == was ? 0 : 1);
            Due.due("count(9)", x.count(9), is ? 1 : 0);
            was = is;
        }
        Due.due("no ACT", x.count(8), 0);
        Twins.noChange("frost(true) where it is", Twins.BUSY, y -> y.frost(true));
        Twins.noChange("frost(false) and frost(true)", Twins.BUSY, y -> {
            Due.due("frost(false)", y.frost(false), 1);
            Due.due("frost(true)", y.frost(true), 1);
        });
        Twins.noChange("frost(false) where there is none", Twins.SMALL, y -> y.frost(false));
    }

    private static void frostAtFirst() {
        Sentence.of("Terms", "FROST: there is, or not (at first not).");
        Due.due("new: count(9)", new TrapsWatchTraps().count(9), 0);
        Due.due("new: frost(false)", new TrapsWatchTraps().frost(false), 0);
        Due.due("new: frost(true)", new TrapsWatchTraps().frost(true), 1);
        Due.due("told: frost(false)", Due.woodOf("FG000").frost(false), 0);
    }
}
