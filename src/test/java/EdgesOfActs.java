/** The sentences about kinds, what springs, what is known and the row of acts: promises 10 to 14 and their terms. */
final class EdgesOfActs {
    private static final int NONE = TrapsWatchTraps.NONE, STATE = TrapsWatchTraps.STATE;
    private static final int UNKNOWN = TrapsWatchTraps.UNKNOWN, OUTSIDE = TrapsWatchTraps.OUTSIDE;
    private static final char[] WHO = {'0', '1', '-'};

    private EdgesOfActs() {
    }

    static void run() {
        snare();
        wire();
        doubleOne();
        sham();
        net();
        springsIf();
        notArmedNorWoken();
        allOnItsCell();
        waves();
        doubleSetOff();
        stepping();
        standing();
        found();
        sprangIsKnown();
        actsAreARow();
        sixteenActs();
        undoneButFrost();
        step();
        stepUnknown();
        stepState();
        arm();
        armRefused();
        look();
        lookRefused();
        free();
        freeRefused();
        undo();
        undoRefused();
    }

    /** A walker beside a trap of a kind steps on it: which traps spring, whether it is caught. */
    private static void onTrap(int kind, int springs, boolean catchesMen, boolean catchesBeasts) {
        for (int of = 0; of < 2; of++) {
            for (char who : WHO) {
                int caught = (who == '-' ? catchesBeasts : catchesMen) ? 1 : 0;
                String name = "KIND " + kind + " of SIDE " + of + ", " + who;
                TrapsWatchTraps x = Due.woodOf("FT05" + of + kind + "G04" + who);
                Due.due(name + ": step", x.step(0, 5), springs);
                Due.due(name + ": where it is", x.walker(0, 0), 5);
                Due.due(name + ": CAUGHT", x.walker(0, 2), caught);
                Due.due(name + ": by", x.walker(0, 3), caught == 1 ? 0 : NONE);
                Due.due(name + ": ARMED", x.trap(0, 4), 1 - springs);
            }
        }
    }

    private static void snare() {
        Sentence.of("Terms", "KINDS: 0 a SNARE (catches those of SIDES, whichever),");
        onTrap(0, 1, true, false);
    }

    private static void wire() {
        Sentence.of("Terms", "1 a WIRE (catches nobody),");
        onTrap(1, 1, false, false);
        TrapsWatchTraps x = Due.woodOf("FT0501G050G051G05-G040");
        Due.due("step", x.step(3, 5), 1);
        Due.due("nobody is CAUGHT", x.count(4), 0);
        TrapsWatchTraps y = Due.woodOf("FT0501T0601W01G040G060");
        Due.due("step", y.step(0, 5), 3);
        Due.due("nobody is CAUGHT by one set off", y.count(4), 0);
    }

    private static void doubleOne() {
        Sentence.of("Terms", "2 a DOUBLE one (the first that steps on it wakes it, nothing more; then it is as a SNARE),");
        onTrap(2, 0, false, false);
        for (int of = 0; of < 2; of++) {
            for (char first : WHO) {
                for (char then : WHO) {
                    TrapsWatchTraps x = Due.woodOf("FT05" + of + "2T0004W01G04" + first + "G06" + then + "G00-G05-");
                    String before = Due.brief(x);
                    Due.due("the first", x.step(0, 5), 0);
                    Due.due("woken", x.trap(0, 5), 1);
                    Due.due("nobody is CAUGHT", x.count(4), 0);
                    Due.due("all ARMED", x.count(3), 3);
                    Due.due("KNOWN as it was", x.trap(0, 6), 1 << of);
                    x.undo();
                    Due.dueSame("undone", Due.brief(x), before);
                    x.step(0, 5);
                    Due.due("the second", x.step(1, 5), 3);
                    Due.due("it catches men", x.count(4), (first == '-' ? 0 : 1) | (then == '-' ? 0 : 2) | 4);
                    Due.due("not woken", x.trap(0, 5), 0);
                }
            }
        }
        // The same one may be the first and the second.
        TrapsWatchTraps x = Due.woodOf("FT0502G040");
        Due.due("the first", x.step(0, 5), 0);
        Due.due("off it", x.step(0, 4), 0);
        Due.due("still woken", x.trap(0, 5), 1);
        Due.due("the second", x.step(0, 5), 1);
        Due.due("CAUGHT", x.walker(0, 3), 0);
    }

    private static void sham() {
        Sentence.of("Terms", "3 a SHAM (never SPRINGS),");
        onTrap(3, 0, false, false);
        TrapsWatchTraps x = Due.woodOf("FT0503T0604T0400W01W20W02G000G06-G050");
        Due.due("sprung(0)", x.sprung(0), 0);
        Due.due("set off by a SNARE", x.step(0, 4), 4);
        Due.due("still ARMED", x.trap(0, 4), 1);
        Due.due("who is CAUGHT", x.count(4), 1);
        Due.due("KEEPERS do not KNOW it", x.trap(0, 6), 1);
        Due.due("not woken", x.trap(0, 5), 0);
        Due.due("what it would set off is ARMED", x.trap(1, 4), 1);
    }

    private static void net() {
        Sentence.of("Terms", "4 a NET (catches all, BEASTS, too).");
        onTrap(4, 1, true, true);
        TrapsWatchTraps x = Due.woodOf("FT0504G040G05-G050G051");
        Due.due("step", x.step(0, 5), 1);
        Due.due("all four", x.count(4), 15);
    }

    private static void springsIf() {
        Sentence.of("Terms", "A TRAP SPRINGS (if it is ARMED, not a SHAM, no FROST):");
        for (int kind = 0; kind <= 4; kind++) {
            // Trap 0 is stepped on, trap 1 of the kind is set off by it; the second walker stands there.
            TrapsWatchTraps x = Due.woodOf("FT0501T100" + kind + "W01G040G100");
            int both = kind == 3 ? 1 : 3;
            x.frost(true);
            Due.due("in FROST: step", x.step(0, 5), 0);
            Due.due("in FROST: sprung(0)", x.sprung(0), 0);
            Due.due("in FROST: ARMED", x.count(3), 3);
            Due.due("in FROST: CAUGHT", x.count(4), 0);
            x.frost(false);
            Due.due("nothing SPRINGS as FROST goes", x.count(3), 3);
            x.step(0, 4);
            Due.due("sprung(0)", x.sprung(0), both);
            Due.due("step", x.step(0, 5), both);
            Due.due("CAUGHT", x.count(4), kind == 1 || kind == 3 ? 0 : 2);
            x.step(0, 4);
            Due.due("not ARMED: step", x.step(0, 5), 0);
            x.arm(0);
            x.step(0, 4);
            Due.due("one that is not ARMED is set off", x.step(0, 5), 1);
        }
    }

    private static void notArmedNorWoken() {
        Sentence.of("Terms", "it is not ARMED any more, nor woken;");
        TrapsWatchTraps x = Due.woodOf("FT0502T0001W10G040G01-");
        x.step(0, 5);
        Due.due("woken", x.trap(0, 5), 1);
        x.step(0, 4);
        Due.due("a woken one set off", x.step(1, 0), 3);
        Due.due("not ARMED", x.count(3), 0);
        Due.due("not woken", x.trap(0, 5), 0);
        x.arm(0);
        Due.due("not woken when ARMED anew", x.trap(0, 5), 0);
        Due.due("it is woken first", x.step(0, 5), 0);
        Due.due("woken", x.trap(0, 5), 1);
        x.step(0, 4);
        Due.due("then it SPRINGS", x.step(0, 5), 1);
        Due.due("not woken", x.trap(0, 5), 0);
        Due.due("not ARMED", x.trap(0, 4), 0);
    }

    private static void allOnItsCell() {
        Sentence.of("Terms", "if it is a SNARE, a DOUBLE one, a NET, all WALKERS on its CELL that are free and that it catches "
                + "are CAUGHT;");
        for (int kind : new int[] {0, 2, 4}) {
            TrapsWatchTraps x = Due.woodOf("FT0501T100" + kind + "W01G040G100G101G10-");
            Due.due("step", x.step(0, 5), 3);
            Due.due("all on its CELL", x.count(4), kind == 4 ? 14 : 6);
            for (int w = 1; w < 4; w++) {
                Due.due("by it", x.walker(w, 3), w < 3 || kind == 4 ? 1 : NONE);
            }
            Due.due("not one elsewhere", x.walker(0, 2), 0);
            // One goes free and stays: the next time it is caught anew, the other is still in it.
            x.free(1);
            x.arm(0);
            x.arm(1);
            x.step(0, 4);
            Due.due("step anew", x.step(0, 5), 3);
            Due.due("all on its CELL", x.count(4), kind == 4 ? 14 : 6);
        }
        // Next to it is not on it.
        TrapsWatchTraps y = Due.woodOf("FT0504G010G041G06-G090");
        Due.due("step", y.step(1, 5), 1);
        Due.due("only the one on it", y.count(4), 2);
    }

    private static void waves() {
        Sentence.of("Terms", "then all that it sets off SPRING, one wave behind the other");
        String six = "FT0001T0101T0201T0301T0701T0604";
        TrapsWatchTraps x = Due.woodOf(six + "W01W12W23W34W45G040G06-");
        Due.due("a chain of six", x.step(0, 0), 63);
        Due.due("CAUGHT by the last", x.walker(1, 3), 5);
        TrapsWatchTraps back = Due.woodOf(six + "W54W43W32W21W10G050");
        Due.due("a chain of six, backwards", back.step(0, 6), 63);
        TrapsWatchTraps ring = Due.woodOf(six + "W01W12W23W34W45W50G040");
        Due.due("a ring of six", ring.step(0, 0), 63);
        Due.due("none is ARMED", ring.count(3), 0);
        TrapsWatchTraps fan = Due.woodOf(six + "W01W02W03W04W05G040");
        Due.due("all at once", fan.step(0, 0), 63);
        TrapsWatchTraps mid = Due.woodOf(six + "W01W12W23W34W45G060");
        Due.due("from the middle on", mid.step(0, 2), 60);
        mid.arm(2);
        mid.arm(4);
        Due.due("as far as they are ARMED", mid.step(0, 1), Due.bits(1, 2));
        Due.due("behind that", mid.count(3), Due.bits(0, 4));
        // The one in between is not armed: what is behind it does not spring.
        TrapsWatchTraps gap = Due.woodOf("FT0501T0601T0701W12W01G020G040");
        Due.due("the last two", gap.step(0, 6), 6);
        gap.arm(2);
        Due.due("the first alone", gap.step(1, 5), 1);
        Due.due("behind the gap", gap.trap(2, 4), 1);
        // By two ways to one: it springs once.
        TrapsWatchTraps two = Due.woodOf("FT0501T0601T0701T1104W01W02W13W23G040G11-");
        Due.due("both ways", two.step(0, 5), 15);
        Due.due("CAUGHT by it", two.walker(1, 3), 3);
    }

    private static void doubleSetOff() {
        Sentence.of("Terms", "(a DOUBLE one that is set off SPRINGS at once, woken or not).");
        for (int isWoken = 0; isWoken < 2; isWoken++) {
            TrapsWatchTraps x = Due.woodOf("FT0501T1002T0304W01W12G040G110G03-");
            x.step(1, 10);
            Due.due("woken", x.trap(1, 5), 1);
            if (isWoken == 0) {
                x.undo();
                Due.due("not woken", x.trap(1, 5), 0);
            }
            Due.due("step", x.step(0, 5), 7);
            Due.due("CAUGHT", x.count(4), isWoken == 0 ? 4 : 6);
            Due.due("not woken", x.trap(1, 5), 0);
            Due.due("not ARMED", x.trap(1, 4), 0);
        }
        TrapsWatchTraps y = Due.woodOf("FT0501T1002W01G040G100");
        Due.due("not woken: step", y.step(0, 5), 3);
        Due.due("it catches the one on it", y.walker(1, 3), 1);
    }

    private static void stepping() {
        Sentence.of("Terms", "A WALKER that steps on a CELL of a TRAP makes it SPRING (or wakes it, if it is ARMED and there is "
                + "no FROST).");
        TrapsWatchTraps x = Due.woodOf("FT0502G04-G060");
        x.frost(true);
        Due.due("in FROST", x.step(0, 5), 0);
        Due.due("not woken", x.trap(0, 5), 0);
        x.step(0, 4);
        x.frost(false);
        Due.due("no FROST", x.step(0, 5), 0);
        Due.due("woken", x.trap(0, 5), 1);
        x.frost(true);
        x.step(0, 4);
        Due.due("woken, in FROST", x.step(0, 5), 0);
        Due.due("still woken", x.trap(0, 5), 1);
        x.frost(false);
        x.step(0, 4);
        Due.due("it SPRINGS", x.step(0, 5), 1);
        x.step(0, 4);
        Due.due("not ARMED", x.step(0, 5), 0);
        Due.due("not woken", x.trap(0, 5), 0);
        // Only a double one is ever woken.
        for (int kind : new int[] {0, 1, 3, 4}) {
            TrapsWatchTraps y = Due.woodOf("FT050" + kind + "G04-");
            y.step(0, 5);
            Due.due("KIND " + kind + " woken", y.trap(0, 5), 0);
        }
    }

    /** It is a step that makes a trap spring: not standing on it, not leaving it, not arming it. */
    private static void standing() {
        for (int kind = 0; kind <= 4; kind++) {
            TrapsWatchTraps x = Due.woodOf("FT050" + kind + "G050G051G05-");
            Due.due("KIND " + kind + ": ARMED", x.count(3), 1);
            Due.due("KIND " + kind + ": nobody CAUGHT", x.count(4), 0);
            Due.due("KIND " + kind + ": leaving it", x.step(0, 4), 0);
            Due.due("KIND " + kind + ": ARMED", x.count(3), 1);
            Due.due("KIND " + kind + ": not woken", x.trap(0, 5), 0);
            Due.due("KIND " + kind + ": look", x.look(1, 5), 1);
            Due.due("KIND " + kind + ": frost", x.frost(true) + x.frost(false), 2);
            Due.due("KIND " + kind + ": ARMED", x.count(3), 1);
        }
        TrapsWatchTraps y = Due.woodOf("FT0504G040G05-");
        y.step(0, 5);
        y.arm(0);
        y.free(0);
        y.free(1);
        Due.due("free on an ARMED one", y.count(4), 0);
        Due.due("ARMED", y.count(3), 1);
    }

    private static void found() {
        Sentence.of("Terms", "FOUND: a SIDE KNOWS a TRAP that it did not.");
        TrapsWatchTraps x = Due.woodOf("FT0500T0610");
        Due.due("only what is new", x.look(0, 5), 2);
        Due.due("POACHERS KNOW", x.count(5), 3);
        Due.due("KEEPERS do as before", x.count(6), 2);
        Due.due("nothing is new", x.look(0, 6), 0);
        Due.due("of KEEPERS", x.look(1, 6), 1);
        Due.due("KEEPERS KNOW", x.count(6), 3);
    }

    private static void sprangIsKnown() {
        Sentence.of("Terms", "A SIDE also KNOWS each TRAP that SPRANG.");
        for (int of = 0; of < 2; of++) {
            for (char who : WHO) {
                TrapsWatchTraps x = Due.woodOf("FT05" + of + "1T11" + of + "0T10" + of + "3T09" + of + "0W01W02G04" + who);
                Due.due("at first", x.count(6 - of), 0);
                Due.due("step", x.step(0, 5), 3);
                Due.due("the other SIDE KNOWS them", x.count(6 - of), 3);
                Due.due("its own", x.count(5 + of), 15);
                x.arm(0);
                Due.due("also when it is ARMED anew", x.trap(0, 6), 3);
                Due.due("nothing is FOUND there", x.look(1 - of, 4), 0);
            }
        }
        for (int t = 0; t < 6; t++) {
            // A chain of six from each one on: just those that sprang.
            TrapsWatchTraps x = Due.woodOf("FT0001T0101T0201T0301T0701T1101W01W12W23W34W45G060G09-");
            int[][] way = {{5, 4, 0}, {5, 1}, {2}, {7, 3}, {7}, {10, 11}};
            int sprang = 0;
            x.frost(true);
            for (int i = 0; i < way[t].length; i++) {
                x.frost(i < way[t].length - 1);
                sprang = x.step(0, way[t][i]);
            }
            Due.due("from " + t + " on", sprang, 63 & -1 << t);
            Due.due("KEEPERS KNOW", x.count(6), 63 & -1 << t);
            Due.due("POACHERS KNOW", x.count(5), 63);
        }
    }

    private static void actsAreARow() {
        Sentence.of("Terms", "ACTS (STEPS, TRAPS that are ARMED anew, LOOKS, CAUGHT ones that go free) are a row");
        TrapsWatchTraps x = Due.woodOf("FT0500G040");
        Due.due("none", x.count(8), 0);
        x.step(0, 5);
        Due.due("a STEP", x.count(8), 1);
        x.arm(0);
        Due.due("a TRAP ARMED anew", x.count(8), 2);
        x.look(1, 11);
        Due.due("a LOOK that finds nothing", x.count(8), 3);
        x.free(0);
        Due.due("one that goes free", x.count(8), 4);
        x.frost(true);
        x.step(0, 6);
        Due.due("a STEP in FROST", x.count(8), 5);
        x.frost(false);
        x.seed(4);
        x.night(3);
        x.keep(0);
        x.fault();
        x.rings();
        x.all();
        x.toLook(1);
        x.strays(0, 2, true);
        x.oneMore(0, 2);
        x.safe(0, 3);
        x.safeAt(0, 3, 0);
        x.write(1, 'F');
        x.wipe();
        Due.due("nothing else is an ACT", x.count(8), 5);
        Due.due("undo()", x.undo(), 4);
        Due.due("not an ACT, either", x.count(8), 4);
    }

    /** A walker goes to and fro on 0, 1, so that each act is told by where it was ahead of it. */
    private static void sixteenActs() {
        Sentence.of("Terms", "(16 at most; of more the first one is forgotten);");
        int[] round = {1, 2, 3, 7, 11, 10, 9, 8, 4, 0};
        for (int acts : new int[] {1, 15, 16, 17, 18, 31, 32, 33, 48, 49, 100}) {
            TrapsWatchTraps x = Due.woodOf("FG000");
            for (int i = 0; i < acts; i++) {
                Due.due("step", x.step(0, round[i % 10]), 0);
                Due.due("ACTS of " + (i + 1), x.count(8), Math.min(16, i + 1));
            }
            int row = Math.min(16, acts);
            for (int i = 1; i <= row; i++) {
                Due.due("undo() " + i + " of " + acts, x.undo(), row - i);
                int left = acts - i;
                Due.due("where it was", x.walker(0, 0), left == 0 ? 0 : round[(left - 1) % 10]);
            }
            Due.due("the first ones are forgotten", x.undo(), STATE);
        }
        // Undone ones make room: one more than the row holds is forgotten only then.
        TrapsWatchTraps x = Due.woodOf("FG000");
        for (int i = 0; i < 20; i++) x.step(0, round[i % 10]);
        for (int i = 0; i < 5; i++) x.undo();
        Due.due("ACTS", x.count(8), 11);
        for (int i = 15; i < 20; i++) x.step(0, round[i % 10]);
        Due.due("ACTS", x.count(8), 16);
        for (int i = 1; i <= 16; i++) x.undo();
        Due.due("where it was ahead of the fifth", x.walker(0, 0), round[3]);
        Due.due("none is left", x.undo(), STATE);
    }

    private static void undoneButFrost() {
        Sentence.of("Terms", "the last one can be undone (FROST stays).");
        for (int was = 0; was < 2; was++) {
            for (int is = 0; is < 2; is++) {
                TrapsWatchTraps x = Due.woodOf("FT0500T0614W01G040G06-");
                x.frost(was == 1);
                x.step(0, 5);
                x.frost(is == 1);
                Due.due("undo()", x.undo(), 0);
                Due.due("FROST", x.count(9), is);
                Due.due("ARMED", x.count(3), 3);
                Due.due("CAUGHT", x.count(4), 0);
                Due.due("where it was", x.walker(0, 0), 4);
                Due.due("what KEEPERS KNOW", x.count(6), 2);
            }
        }
    }

    private static void step() {
        Sentence.of("Promise 10", "A STEP: which TRAPS SPRING, as bits.");
        TrapsWatchTraps x = Due.woodOf("FT0503T0600T0714T0101T0201T1111W12W31W25G040G061G11-");
        Due.due("on a SHAM", x.step(0, 5), 0);
        Due.due("on no TRAP", x.step(0, 4), 0);
        Due.due("on one that sets off others", x.step(2, 7), Due.bits(2, 5));
        Due.due("one alone", x.step(1, 2), Due.bits(4));
        Due.due("where they are", x.walker(1, 0) * 100 + x.walker(2, 0), 207);
        Due.due("off it", x.step(1, 3), 0);
        Due.due("on one that is not ARMED", x.step(1, 2), 0);
    }

    private static void stepUnknown() {
        Sentence.of("Promise 10", "UNKNOWN: walker, cell;");
        for (int w : Refusals.NO_WALKERS) {
            Twins.refused("step(" + w + ", 1)", Twins.BUSY, x -> x.step(w, 1), UNKNOWN);
        }
        for (int c : Refusals.NO_CELLS) {
            for (int w = 0; w < 4; w++) {
                int walker = w;
                Twins.refused("step(" + w + ", " + c + ")", Twins.BUSY, x -> x.step(walker, c), UNKNOWN);
            }
        }
        Twins.refused("step(1, 5) of one", Twins.SMALL, x -> x.step(1, 5), UNKNOWN);
        Twins.refused("step(0, 0) of none", Twins.NEW, x -> x.step(0, 0), UNKNOWN);
    }

    private static void stepState() {
        Sentence.of("Promise 10", "STATE: it is CAUGHT, or can not step there from where it is.");
        // In BUSY walker 0 is caught on 5, walker 1 stands on 6, 2 on 0, 3 on 10; 9 is closed.
        for (int c = 0; c < 12; c++) {
            int cell = c;
            Twins.refused("step(0, " + c + ") of a CAUGHT one", Twins.BUSY, x -> x.step(0, cell), STATE);
        }
        int[][] open = {{}, {2, 5, 7, 10}, {1, 4}, {6, 11}};
        for (int w = 1; w < 4; w++) {
            for (int c = 0; c < 12; c++) {
                int walker = w;
                int cell = c;
                boolean canStep = (Due.bits(open[w]) >> c & 1) != 0;
                if (!canStep) {
                    Twins.refused("step(" + w + ", " + c + ")", Twins.BUSY, x -> x.step(walker, cell), STATE);
                    continue;
                }
                TrapsWatchTraps x = new TrapsWatchTraps();
                Twins.BUSY.on(x);
                Due.due("step(" + w + ", " + c + ")", x.step(w, c), 0);
                Due.due("where it is", x.walker(w, 0), c);
            }
        }
        // Nobody can step anywhere.
        Twins.Run shut = x -> {
            Due.tell(x, "FX01X04G000");
            x.wood();
        };
        for (int c = 0; c < 12; c++) {
            int cell = c;
            Twins.refused("shut in: step(0, " + c + ")", shut, x -> x.step(0, cell), STATE);
        }
        TrapsWatchTraps y = Due.woodOf("FT0500G040");
        y.step(0, 5);
        Due.due("CAUGHT", y.step(0, 4), STATE);
        y.free(0);
        Due.due("free", y.step(0, 4), 0);
    }

    private static void arm() {
        Sentence.of("Promise 11", "A TRAP is ARMED anew (not woken): which SIDE set it.");
        for (int of = 0; of < 2; of++) {
            for (int kind : new int[] {0, 1, 2, 4}) {
                TrapsWatchTraps x = Due.woodOf("FT05" + of + kind + "G04-G060G10-");
                x.step(0, 5);
                if (kind == 2) x.step(1, 5);
                Due.due("not ARMED", x.trap(0, 4), 0);
                int caught = x.count(4);
                Due.due("arm(0)", x.arm(0), of);
                Due.due("ARMED", x.trap(0, 4), 1);
                Due.due("not woken", x.trap(0, 5), 0);
                Due.due("who is CAUGHT stays", x.count(4), caught);
                x.step(2, 6);
                Due.due("it SPRINGS anew, or wakes", x.step(2, 5), kind == 2 ? 0 : 1);
            }
        }
        TrapsWatchTraps last = Due.woodOf("FT0000T0100T0200T0300T0400T0510G060");
        last.step(0, 5);
        last.frost(true);
        Due.due("arm(5), the last, in FROST", last.arm(5), 1);
        Due.due("ARMED", last.count(3), 63);
    }

    private static void armRefused() {
        Sentence.of("Promise 11", "UNKNOWN; STATE: it is ARMED.");
        for (int t : Refusals.NO_TRAPS) Twins.refused("arm(" + t + ")", Twins.BUSY, x -> x.arm(t), UNKNOWN);
        Twins.refused("arm(2) of two", Twins.SMALL, x -> x.arm(2), UNKNOWN);
        Twins.refused("arm(0) of none", Twins.NEW, x -> x.arm(0), UNKNOWN);
        for (int t = 2; t < 6; t++) {
            int trap = t;
            Twins.refused("arm(" + t + ")", Twins.BUSY, x -> x.arm(trap), STATE);
        }
        // A woken one is armed: it stays woken.
        Twins.refused("arm(0) of a woken one", x -> {
            Due.tell(x, "FT0502G040");
            x.wood();
            x.step(0, 5);
        }, x -> x.arm(0), STATE);
    }

    private static void look() {
        Sentence.of("Promise 12", "A LOOK: which TRAPS are FOUND, as bits.");
        Sentence.of("Terms", "A LOOK of a SIDE from a CELL finds all TRAPS on it and its NEIGHBOURS.");
        TrapsWatchTraps x = Due.woodOf("FT0110T0411T0512T0613T0914T0010");
        Due.due("look(0, 5): five of six", x.look(0, 5), 31);
        Due.due("look(0, 5) anew", x.look(0, 5), 0);
        Due.due("look(0, 0): the last", x.look(0, 0), 32);
        Due.due("POACHERS KNOW", x.count(5), 63);
        Due.due("nothing SPRINGS", x.count(3), 63);
        Due.due("look(1, 5): its own", x.look(1, 5), 0);
        Due.due("ACTS", x.count(8), 4);
        // No wrap-around from one row to the next; closed cells hide nothing; frost does not, either.
        TrapsWatchTraps y = Due.woodOf("FT0410T0310T0810X04X03X08");
        Due.due("look(0, 7)", y.look(0, 7), 2);
        y.frost(true);
        Due.due("look(0, 4), a closed one", y.look(0, 4), 5);
        TrapsWatchTraps none = new TrapsWatchTraps();
        Due.due("no TRAPS", none.look(0, 0), 0);
        Due.due("an ACT", none.count(8), 1);
    }

    private static void lookRefused() {
        Sentence.of("Promise 12", "UNKNOWN: cell; OUTSIDE: side.");
        for (int c : Refusals.NO_CELLS) {
            Twins.refused("look(0, " + c + ")", Twins.BUSY, x -> x.look(0, c), UNKNOWN);
            Twins.refused("look(1, " + c + ")", Twins.BUSY, x -> x.look(1, c), UNKNOWN);
        }
        for (int s : Refusals.NO_SIDES) {
            for (int c = 0; c < 12; c++) {
                int cell = c;
                Twins.refused("look(" + s + ", " + c + ")", Twins.BUSY, x -> x.look(s, cell), OUTSIDE);
            }
            Twins.refused("look(" + s + ", 0) of none", Twins.NEW, x -> x.look(s, 0), OUTSIDE);
        }
    }

    private static void free() {
        Sentence.of("Promise 13", "One that is CAUGHT goes free: the TRAP it was in.");
        TrapsWatchTraps x = Due.woodOf("FT0104T0200T0300T0400T0500T0604W05G000G06-G050");
        x.step(0, 1);
        Due.due("CAUGHT", x.count(4), 3);
        Due.due("free(1): the last TRAP", x.free(1), 5);
        Due.due("free(0): the first TRAP", x.free(0), 0);
        Due.due("nobody is CAUGHT", x.count(4), 0);
        Due.due("by none", x.walker(0, 3), NONE);
        Due.due("where it was", x.walker(1, 0), 6);
        Due.due("the TRAPS stay as they are", x.count(3), 30);
        Due.due("it can step", x.step(0, 0), 0);
    }

    private static void freeRefused() {
        Sentence.of("Promise 13", "UNKNOWN; STATE: it is free.");
        for (int w : Refusals.NO_WALKERS) Twins.refused("free(" + w + ")", Twins.BUSY, x -> x.free(w), UNKNOWN);
        Twins.refused("free(1) of one", Twins.SMALL, x -> x.free(1), UNKNOWN);
        Twins.refused("free(0) of none", Twins.NEW, x -> x.free(0), UNKNOWN);
        Twins.refused("free(0) of a free one", Twins.SMALL, x -> x.free(0), STATE);
        for (int w = 1; w < 4; w++) {
            int walker = w;
            Twins.refused("free(" + w + ")", Twins.BUSY, x -> x.free(walker), STATE);
        }
    }

    private static void undo() {
        Sentence.of("Promise 14", "The last ACT is undone: how many are left.");
        Twins.Call[] acts = {x -> x.step(1, 2), x -> x.step(2, 1), x -> x.arm(0), x -> x.arm(1), x -> x.look(0, 8),
            x -> x.look(1, 0), x -> x.free(0)};
        for (int i = 0; i < acts.length; i++) {
            Twins.Call act = acts[i];
            for (int frozen = 0; frozen < 2; frozen++) {
                boolean is = frozen == 1;
                Twins.Run before = x -> {
                    Twins.BUSY.on(x);
                    x.frost(is);
                    // Room for one act more, as of 17 the first would be forgotten.
                    x.undo();
                };
                Twins.noChange("an ACT and undo(): " + i, before, x -> {
                    Due.due("ACTS", x.count(8), 15);
                    Due.dueTrue("an ACT", act.of(x) >= 0);
                    Due.due("ACTS", x.count(8), 16);
                    Due.due("undo()", x.undo(), 15);
                });
            }
        }
        TrapsWatchTraps x = Due.woodOf("FG000");
        x.look(0, 0);
        x.look(0, 1);
        Due.due("undo() of two", x.undo(), 1);
        Due.due("undo() of one", x.undo(), 0);
    }

    private static void undoRefused() {
        Sentence.of("Promise 14", "STATE: there is none.");
        Twins.refused("undo()", Twins.NEW, x -> x.undo(), STATE);
        Twins.refused("undo()", Twins.SMALL, x -> x.undo(), STATE);
        Twins.refused("undo() of no more", x -> {
            Twins.BUSY.on(x);
            for (int i = 0; i < 16; i++) Due.due("undo()", x.undo(), 15 - i);
        }, x -> x.undo(), STATE);
        Twins.refused("undo() behind again(0)", x -> {
            Twins.BUSY.on(x);
            x.again(0);
        }, x -> x.undo(), STATE);
        Twins.refused("undo() behind wood()", x -> {
            Twins.BUSY.on(x);
            x.write(1, '1');
            x.wood();
        }, x -> x.undo(), STATE);
    }
}
