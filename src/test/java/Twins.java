/**
 * Two objects made by the same calls, one of which is then asked what must change nothing: no run of calls behind
 * that may tell them apart, neither by what is now nor by what can be undone, was kept, is drawn, was written.
 */
final class Twins {
    interface Run {
        void on(TrapsWatchTraps x);
    }

    interface Call {
        long of(TrapsWatchTraps x);
    }

    /** Nothing was called yet. */
    static final Run NEW = x -> { };

    /** 64 bytes that are a wood, and that wood; an act, so that there is something to spoil. */
    static final String BYTES_64 = "FT0000T0100T0200T0300T0400T0500W01W02W03W04W05W10W12W13W14W15W20";
    static final Run FULL_TEXT = x -> {
        Due.tell(x, BYTES_64);
        x.wood();
        x.look(1, 0);
    };

    /** Two traps and a walker, which is free, and no act: the limits are those of this wood. */
    static final Run SMALL = x -> {
        Due.tell(x, "FT0500T0614W01G041");
        x.wood();
        x.seed(5);
    };

    /**
     * All that a call could spoil: six traps (0, 1 sprung, 2 armed anew, 3 a sham, 4 woken, 5 as at first), walker 0
     * caught in trap 0, the others free, more acts than the row holds, two slots unlike what is now and unlike one
     * another, frost, a seed, a text that is not the wood and needs one figure more.
     */
    static final Run BUSY = x -> {
        Due.tell(x, "FT0502T0614T0100T1103T0812T0304W01W12X09G040G061G00-G101");
        x.wood();
        x.seed(77);
        x.step(0, 5);
        x.keep(0);
        x.step(0, 4);
        x.step(0, 5);
        x.keep(1);
        x.free(1);
        x.arm(2);
        x.look(1, 7);
        for (int cell : new int[] {4, 8, 4, 0}) x.step(2, cell);
        for (int i = 0; i < 12; i++) x.step(3, i % 2 == 0 ? 11 : 10);
        x.frost(true);
        Due.tell(x, "FT0713X05G00");
    };

    private static final Run[] STATES = {NEW, SMALL, FULL_TEXT, BUSY};

    private Twins() {
    }

    /** A call is refused as due, once and again, and changes nothing. */
    static void refused(String name, Run before, Call call, int refusal) {
        noChange(name, before, x -> {
            Due.due(name, call.of(x), refusal);
            Due.due(name + ", once more", call.of(x), refusal);
        });
    }

    static void noChange(String name, Run before, Run more) {
        same(name + " changes nothing", x -> {
            before.on(x);
            more.on(x);
        }, before);
    }

    /** A run of calls that changes nothing in any state. */
    static void neverAChange(String name, Run more) {
        for (int i = 0; i < STATES.length; i++) {
            noChange(name + " in state " + i, STATES[i], more);
        }
    }

    /** Behind these two runs on new objects, no calls tell them apart. */
    static void same(String name, Run one, Run other) {
        Probe[] probes = {Twins::now, Twins::waysAndChances, Twins::undone, Twins::undoneAll, Twins::keptInFirst,
            Twins::keptInSecond, Twins::nights, Twins::written};
        for (Probe probe : probes) {
            TrapsWatchTraps x = new TrapsWatchTraps();
            TrapsWatchTraps y = new TrapsWatchTraps();
            one.on(x);
            other.on(y);
            Due.dueSame(name, probe.of(x), probe.of(y));
        }
    }

    /** None goes beyond 390 calls, so that object and run stay within 512. */
    private interface Probe {
        String of(TrapsWatchTraps x);
    }

    private static String now(TrapsWatchTraps x) {
        StringBuilder told = new StringBuilder(Due.all(x));
        for (int c = 0; c < 12; c++) told.append(' ').append(x.near(c));
        for (int t = 0; t < 6; t++) told.append(' ').append(x.sprung(t));
        for (int set = 0; set < 64; set++) told.append(' ').append(x.first(set));
        told.append(' ').append(x.rings()).append(' ').append(x.all());
        return told.append(' ').append(x.toLook(0)).append(' ').append(x.toLook(1)).toString();
    }

    private static String waysAndChances(TrapsWatchTraps x) {
        StringBuilder told = new StringBuilder();
        for (int w = 0; w < 4; w++) {
            for (int c = 0; c < 12; c++) told.append(x.safe(w, c)).append(' ').append(x.safeAt(w, c, 1)).append(' ');
            for (int n = 0; n <= 4; n++) {
                told.append(x.strays(w, n, true)).append('/').append(x.strays(w, n, false)).append(' ');
                told.append(x.oneMore(w, n)).append(' ');
            }
        }
        x.frost(false);
        for (int w = 0; w < 4; w++) {
            told.append(x.strays(w, 4, true)).append('/').append(x.strays(w, 4, false)).append(' ');
        }
        return told.toString();
    }

    private static String undone(TrapsWatchTraps x) {
        StringBuilder told = new StringBuilder(Due.brief(x));
        for (int i = 0; i < 16 && x.count(8) > 0; i++) told.append(x.undo()).append(": ").append(Due.brief(x));
        return told.append(x.undo()).toString();
    }

    /** Nothing is asked ahead of these, so that no question can hide what it spoils itself. */
    private static String undoneAll(TrapsWatchTraps x) {
        StringBuilder told = new StringBuilder();
        for (int i = 0; i < 17; i++) told.append(x.undo()).append(' ');
        return told.append(Due.brief(x)).toString();
    }

    private static String keptInFirst(TrapsWatchTraps x) {
        return x.again(0) + ": " + Due.brief(x) + x.again(1);
    }

    private static String keptInSecond(TrapsWatchTraps x) {
        return x.again(1) + ": " + Due.brief(x) + x.again(0);
    }

    private static String nights(TrapsWatchTraps x) {
        StringBuilder told = new StringBuilder();
        for (int m = 1; m <= 40; m++) told.append(x.night(m)).append(' ');
        x.frost(false);
        for (int m = 1; m <= 40; m++) told.append(x.night(m)).append(' ');
        return told.append(x.seed(0)).append(' ').append(Due.brief(x)).toString();
    }

    private static String written(TrapsWatchTraps x) {
        StringBuilder told = new StringBuilder();
        told.append(x.count(0)).append(' ').append(x.fault()).append(' ').append(x.write(1, '1')).append(' ');
        told.append(x.fault()).append(' ').append(x.wood()).append(": ").append(Due.all(x)).append(' ');
        return told.append(x.wipe()).append(' ').append(x.write(1, 'F')).append(' ').append(x.fault()).toString();
    }
}
