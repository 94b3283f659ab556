/** The sentences about what is kept and gone on from, the counts, and how long an object is used: promises 26 to 28. */
final class EdgesOfSlots {
    private static final int STATE = TrapsWatchTraps.STATE, FULL = TrapsWatchTraps.FULL;
    private static final int UNKNOWN = TrapsWatchTraps.UNKNOWN, OUTSIDE = TrapsWatchTraps.OUTSIDE;

    private EdgesOfSlots() {
    }

    static void run() {
        slots();
        keep();
        keepUnknown();
        again();
        againRefused();
        count();
        countOutside();
        manyCalls();
    }

    private static void slots() {
        Sentence.of("Terms", "SLOTS 0 to 1 keep TRAPS, WALKERS, what SIDES KNOW, FROST");
        for (int slot = 0; slot < 2; slot++) {
            TrapsWatchTraps x = new TrapsWatchTraps();
            Twins.BUSY.on(x);
            String told = Due.brief(x).replaceFirst(" 16 1 ", " 0 1 ");
            x.keep(slot);
            // All is made otherwise: armed, woken, caught, known, where they are, frost.
            x.frost(false);
            x.arm(0);
            x.arm(1);
            x.free(0);
            x.step(0, 4);
            x.step(0, 5);
            x.step(2, 1);
            x.look(0, 8);
            x.look(1, 10);
            Due.due("woken", x.trap(0, 5), 1);
            Due.dueTrue("otherwise", !Due.brief(x).equals(told));
            Due.due("again(" + slot + ")", x.again(slot), 3);
            Due.dueSame("as they were", Due.brief(x), told);
        }
        Sentence.of("Terms", "(THE ROW of ACTS is empty when one goes on).");
        for (int slot = 0; slot < 2; slot++) {
            TrapsWatchTraps x = new TrapsWatchTraps();
            Twins.BUSY.on(x);
            Due.due("ACTS", x.count(8), 16);
            x.keep(slot);
            Due.due("ACTS stay when they are kept", x.count(8), 16);
            x.again(slot);
            Due.due("no ACTS", x.count(8), 0);
            Due.due("undo()", x.undo(), STATE);
            x.look(0, 0);
            Due.due("an ACT", x.count(8), 1);
            Due.due("undo()", x.undo(), 0);
        }
    }

    private static void keep() {
        Sentence.of("Promise 26", "They are kept: how many WALKERS are free.");
        Due.due("no WALKERS", new TrapsWatchTraps().keep(0), 0);
        TrapsWatchTraps x = Due.woodOf("FT0504T0104T0404T0604W01W02W03G010G04-G061G090");
        Due.due("four are free", x.keep(0), 4);
        x.step(3, 5);
        Due.due("none is free", x.keep(1), 0);
        x.free(0);
        Due.due("one is free", x.keep(1), 1);
        Due.due("the other SLOT has four", x.again(0), 4);
        Due.due("this one has one, the later", x.again(1), 1);
        Due.due("which", x.count(4), 14);
        // Kept once, gone on from as often as one likes.
        x.free(1);
        Due.due("again(1)", x.again(1), 1);
        Due.due("again(1)", x.again(1), 1);
        // What comes behind does not touch what is kept, nor does a slot touch the other.
        x.arm(0);
        x.look(0, 0);
        x.frost(true);
        Due.due("again(0)", x.again(0), 4);
        Due.due("ARMED", x.count(3), 15);
        Due.due("no FROST", x.count(9), 0);
        Twins.same("keep() is no ACT", Twins.SMALL, y -> {
            Twins.SMALL.on(y);
            y.keep(0);
            Due.tell(y, "FT0500T0614W01G041");
            y.wood();
        });
        TrapsWatchTraps seeds = Due.woodOf("FG000");
        seeds.seed(5);
        seeds.keep(0);
        seeds.seed(6);
        seeds.again(0);
        Due.due("THE SEED is not kept", seeds.seed(0), 6);
        TrapsWatchTraps text = Due.woodOf("FG000");
        text.keep(0);
        text.wipe();
        text.again(0);
        Due.due("THE TEXT is not kept", text.count(0), 0);
    }

    private static void keepUnknown() {
        Sentence.of("Promise 26", "UNKNOWN.");
        for (int s : Refusals.NO_SLOTS) {
            Twins.refused("keep(" + s + ")", Twins.NEW, x -> x.keep(s), UNKNOWN);
            Twins.refused("keep(" + s + ")", Twins.SMALL, x -> x.keep(s), UNKNOWN);
            Twins.refused("keep(" + s + ")", Twins.BUSY, x -> x.keep(s), UNKNOWN);
        }
    }

    private static void again() {
        Sentence.of("Promise 27", "They are as they were kept: how many WALKERS are free.");
        TrapsWatchTraps x = new TrapsWatchTraps();
        Twins.BUSY.on(x);
        Due.due("again(0)", x.again(0), 4);
        Due.due("where it was", x.walker(0, 0), 5);
        Due.due("woken", x.trap(0, 5), 1);
        Due.due("ARMED", x.count(3), 63);
        Due.due("no FROST", x.count(9), 0);
        Due.due("again(1)", x.again(1), 2);
        Due.due("CAUGHT", x.count(4), 3);
        Due.due("ARMED", x.count(3), 56);
        Due.due("KEEPERS KNOW", x.count(6), Due.bits(0, 1, 2, 4));
        // At once behind keep() nothing but the row is otherwise.
        Twins.same("keep() and again()", y -> {
            Twins.SMALL.on(y);
            y.keep(1);
            y.step(0, 5);
            y.again(1);
        }, y -> {
            Twins.SMALL.on(y);
            y.keep(1);
        });
        Due.due("no WALKERS", newKept().again(0), 0);
    }

    private static TrapsWatchTraps newKept() {
        TrapsWatchTraps x = new TrapsWatchTraps();
        x.keep(0);
        return x;
    }

    private static void againRefused() {
        Sentence.of("Promise 27", "UNKNOWN; STATE: none were kept.");
        for (int s : Refusals.NO_SLOTS) {
            Twins.refused("again(" + s + ")", Twins.NEW, x -> x.again(s), UNKNOWN);
            Twins.refused("again(" + s + ")", Twins.BUSY, x -> x.again(s), UNKNOWN);
        }
        for (int slot = 0; slot < 2; slot++) {
            int one = slot;
            Twins.refused("again(" + slot + ")", Twins.NEW, x -> x.again(one), STATE);
            Twins.refused("again(" + slot + ")", Twins.SMALL, x -> x.again(one), STATE);
            Twins.refused("again(" + slot + ") with an ACT", Twins.FULL_TEXT, x -> x.again(one), STATE);
            Twins.refused("again(" + slot + "), the other is kept", x -> {
                Twins.SMALL.on(x);
                x.step(0, 5);
                x.keep(1 - one);
                x.free(0);
            }, x -> x.again(one), STATE);
            Twins.refused("again(" + slot + ") behind wood()", x -> {
                Twins.BUSY.on(x);
                x.write(1, '1');
                x.wood();
                x.look(0, 0);
            }, x -> x.again(one), STATE);
        }
    }

    private static void counts(TrapsWatchTraps x, int... want) {
        for (int what = 0; what <= 9; what++) Due.due("count(" + what + ")", x.count(what), want[what]);
    }

    private static void count() {
        Sentence.of("Promise 28", "0 bytes of THE TEXT, 1 TRAPS, 2 WALKERS, 3 TRAPS that are ARMED (bits), 4 WALKERS that are CAUGHT "
                + "(bits), 5 TRAPS that POACHERS KNOW (bits), 6 that KEEPERS do, 7 CELLS that nobody can step on (bits), 8 ACTS "
                + "in the row, 9 1 if there is FROST.");
        counts(new TrapsWatchTraps(), 0, 0, 0, 0, 0, 0, 0, 0, 0, 0);
        TrapsWatchTraps busy = new TrapsWatchTraps();
        Twins.BUSY.on(busy);
        counts(busy, 12, 6, 4, Due.bits(2, 3, 4, 5), 1, Due.bits(0, 1, 2, 3, 5), 63, 1 << 9, 16, 1);
        TrapsWatchTraps full = new TrapsWatchTraps();
        Twins.FULL_TEXT.on(full);
        counts(full, 64, 6, 0, 63, 0, 63, Due.bits(0, 1, 4), 0, 1, 0);
        counts(Due.woodOf("FX00X01X02X03X04X05X06X07X08X09X10X11"), 37, 0, 0, 0, 0, 0, 0, 4095, 0, 0);
        TrapsWatchTraps caught = Due.woodOf("FT0504G050G051G05-G040");
        caught.step(3, 5);
        counts(caught, 22, 1, 4, 0, 15, 1, 1, 0, 1, 0);
        Twins.neverAChange("count()", x -> {
            for (int what = 0; what <= 9; what++) x.count(what);
        });
    }

    private static void countOutside() {
        Sentence.of("Promise 28", "OUTSIDE.");
        for (int what : new int[] {-1, 10, 11, -9, 32, 41, 256, Integer.MIN_VALUE, Integer.MAX_VALUE}) {
            Twins.refused("count(" + what + ")", Twins.NEW, x -> x.count(what), OUTSIDE);
            Twins.refused("count(" + what + ")", Twins.BUSY, x -> x.count(what), OUTSIDE);
        }
    }

    private static void manyCalls() {
        Sentence.of("What it is", "An object is used for at most 512 calls after it has been made;");
        // Three calls make the wood; the 512th answers as the first.
        TrapsWatchTraps steps = new TrapsWatchTraps();
        steps.write(5, 0x4647303030L);
        steps.wood();
        for (int i = 3; i <= 495; i++) Due.due("call " + i, steps.step(0, i % 2 == 1 ? 1 : 0), 0);
        for (int i = 496; i <= 511; i++) Due.due("call " + i + ": undo()", steps.undo(), 511 - i);
        Due.due("call 512: where it is", steps.walker(0, 0), 1);
        TrapsWatchTraps texts = new TrapsWatchTraps();
        for (int i = 1; i <= 8; i++) texts.write(8, 0x4646464646464646L);
        for (int i = 9; i <= 510; i++) Due.due("call " + i, texts.write(1, 0), FULL);
        Due.due("call 511: wipe()", texts.wipe(), 64);
        Due.due("call 512: write()", texts.write(1, 'F'), 1);
        TrapsWatchTraps woods = new TrapsWatchTraps();
        woods.write(5, 0x4647303030L);
        for (int i = 2; i <= 512; i++) Due.due("call " + i + ": wood()", woods.wood(), 1);
        TrapsWatchTraps slots = new TrapsWatchTraps();
        slots.write(5, 0x4647303030L);
        slots.wood();
        for (int i = 3; i <= 512; i++) Due.due("call " + i, i % 2 == 1 ? slots.keep(i % 4 / 2) : slots.again(i % 4 / 2), again(i));
        TrapsWatchTraps nights = new TrapsWatchTraps();
        nights.write(5, 0x4647303030L);
        nights.wood();
        for (int i = 3; i <= 511; i++) Due.due("call " + i + ": night()", nights.night(40), 0);
        long seed = 0;
        for (int i = 0; i < 509 * 40; i++) seed = seed * 6364136223846793005L + 1442695040888963407L;
        Due.due("call 512: seed()", nights.seed(0), seed);
        Sentence.of("What it is", "what later calls answer is free.");
    }

    /** Calls 3 keeps slot 1, 4 goes on from slot 0, where none is kept yet; from call 6 on all is there. */
    private static int again(int call) {
        return call == 4 ? STATE : 1;
    }
}
