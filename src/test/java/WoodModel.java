import java.math.BigInteger;
import java.util.ArrayDeque;
import java.util.ArrayList;
import java.util.Deque;
import java.util.List;
import java.util.TreeSet;
import java.util.regex.Matcher;
import java.util.regex.Pattern;

/**
 * The document once more, as plainly and wastefully as can be: whole copies, all paths, all sets.
 * It shares no way of working with the class, so that one's slip is not the other's.
 */
final class WoodModel {
    static final int UNKNOWN = -1, OUTSIDE = -2, STATE = -3, FULL = -4, NONE = -9;

    static final class Trap {
        int cell, side, kind;
        TreeSet<Integer> off = new TreeSet<>();
        boolean armed = true, woken = false;
        boolean[] known = new boolean[2];

        Trap copy() {
            Trap t = new Trap();
            t.cell = cell;
            t.side = side;
            t.kind = kind;
            t.off = new TreeSet<>(off);
            t.armed = armed;
            t.woken = woken;
            t.known = known.clone();
            return t;
        }
    }

    static final class Walker {
        int cell, side, by = NONE;

        Walker copy() {
            Walker w = new Walker();
            w.cell = cell;
            w.side = side;
            w.by = by;
            return w;
        }
    }

    /** Traps, walkers, what sides know, frost, and the cells that are closed. */
    static final class World {
        List<Trap> traps = new ArrayList<>();
        List<Walker> walkers = new ArrayList<>();
        TreeSet<Integer> closed = new TreeSet<>();
        boolean frost = false;

        World copy() {
            World w = new World();
            for (Trap t : traps) w.traps.add(t.copy());
            for (Walker a : walkers) w.walkers.add(a.copy());
            w.closed = new TreeSet<>(closed);
            w.frost = frost;
            return w;
        }

        List<Integer> near(int cell) {
            List<Integer> found = new ArrayList<>();
            for (int c = 0; c < 12; c++) {
                int apart = Math.abs(c / 4 - cell / 4) + Math.abs(c % 4 - cell % 4);
                if (apart == 1 && !closed.contains(c)) found.add(c);
            }
            return found;
        }

        int trapOn(int cell) {
            for (int t = 0; t < traps.size(); t++) if (traps.get(t).cell == cell) return t;
            return NONE;
        }

        boolean catches(int kind, int side) {
            if (kind == 4) return true;
            return side != NONE && (kind == 0 || kind == 2);
        }

        /** One trap springs; waves one behind the other; those that sprang. */
        TreeSet<Integer> spring(int first) {
            TreeSet<Integer> sprang = new TreeSet<>();
            Deque<Integer> waiting = new ArrayDeque<>();
            waiting.add(first);
            while (!waiting.isEmpty()) {
                int i = waiting.remove();
                Trap t = traps.get(i);
                if (frost || !t.armed || t.kind == 3) continue;
                t.armed = false;
                t.woken = false;
                t.known[0] = true;
                t.known[1] = true;
                sprang.add(i);
                for (Walker w : walkers) {
                    if (w.by == NONE && w.cell == t.cell && catches(t.kind, w.side)) w.by = i;
                }
                waiting.addAll(t.off);
            }
            return sprang;
        }

        TreeSet<Integer> step(int walker, int cell) {
            walkers.get(walker).cell = cell;
            int on = trapOn(cell);
            if (on == NONE) return new TreeSet<>();
            Trap t = traps.get(on);
            if (t.armed && !frost && t.kind == 2 && !t.woken) {
                t.woken = true;
                return new TreeSet<>();
            }
            return spring(on);
        }

        /** Upper and lower. */
        BigInteger[] chance(int walker, int n) {
            BigInteger[] none = {BigInteger.ZERO, BigInteger.ONE};
            if (walkers.get(walker).by != NONE) return new BigInteger[] {BigInteger.ONE, BigInteger.ONE};
            List<Integer> ways = near(walkers.get(walker).cell);
            if (n == 0 || ways.isEmpty()) return none;
            BigInteger[] sum = none;
            for (int c : ways) {
                World then = copy();
                then.step(walker, c);
                BigInteger[] one = then.chance(walker, n - 1);
                BigInteger lower = one[1].multiply(BigInteger.valueOf(ways.size()));
                BigInteger up = sum[0].multiply(lower).add(one[0].multiply(sum[1]));
                BigInteger low = sum[1].multiply(lower);
                BigInteger g = up.gcd(low);
                sum = new BigInteger[] {up.divide(g), low.divide(g)};
            }
            return sum;
        }

        int free() {
            int free = 0;
            for (Walker w : walkers) if (w.by == NONE) free++;
            return free;
        }

        int caught() {
            int bits = 0;
            for (int w = 0; w < walkers.size(); w++) if (walkers.get(w).by != NONE) bits |= 1 << w;
            return bits;
        }
    }

    private String text = "";
    private World world = new World();
    private List<World> before = new ArrayList<>();
    private World[] slots = new World[2];
    private BigInteger seed = BigInteger.ZERO;

    static int bits(Iterable<Integer> places) {
        int bits = 0;
        for (int p : places) bits |= 1 << p;
        return bits;
    }

    int write(int n, long v) {
        if (n < 1 || n > 8) return OUTSIDE;
        if (text.length() + n > 64) return FULL;
        for (int i = n - 1; i >= 0; i--) text += (char) (v >>> (8 * i) & 255);
        return text.length();
    }

    int wipe() {
        int was = text.length();
        text = "";
        return was;
    }

    private static final Pattern PART = Pattern.compile(
            "T(0[0-9]|1[01])([01])([0-4])|W([0-5])([0-5])|X(0[0-9]|1[01])|G(0[0-9]|1[01])([01-])");
    static final List<String> PARTS = everyPart();

    private static List<String> everyPart() {
        List<String> parts = new ArrayList<>();
        for (int c = 0; c < 12; c++) {
            String cc = "" + c / 10 + c % 10;
            parts.add("X" + cc);
            for (String s : new String[] {"0", "1", "-"}) parts.add("G" + cc + s);
            for (int s = 0; s < 2; s++) for (int k = 0; k < 5; k++) parts.add("T" + cc + s + k);
        }
        for (int i = 0; i < 6; i++) for (int j = 0; j < 6; j++) parts.add("W" + i + j);
        return parts;
    }

    /** Null if a text is none. */
    static World parse(String text) {
        if (!text.startsWith("F")) return null;
        World w = new World();
        Matcher m = PART.matcher(text);
        int at = 1;
        while (at < text.length()) {
            m.region(at, text.length());
            if (!m.lookingAt() || !add(w, m)) return null;
            at = m.end();
        }
        for (Trap t : w.traps) t.known[t.side] = true;
        return w;
    }

    private static boolean add(World w, Matcher m) {
        if (m.group(1) != null) {
            Trap t = new Trap();
            t.cell = Integer.parseInt(m.group(1));
            t.side = Integer.parseInt(m.group(2));
            t.kind = Integer.parseInt(m.group(3));
            if (w.traps.size() == 6 || w.trapOn(t.cell) != NONE) return false;
            return w.traps.add(t);
        }
        if (m.group(4) != null) {
            int i = Integer.parseInt(m.group(4));
            int j = Integer.parseInt(m.group(5));
            return i != j && Math.max(i, j) < w.traps.size() && w.traps.get(i).off.add(j);
        }
        if (m.group(6) != null) {
            int c = Integer.parseInt(m.group(6));
            for (Walker a : w.walkers) if (a.cell == c) return false;
            return w.closed.add(c);
        }
        Walker a = new Walker();
        a.cell = Integer.parseInt(m.group(7));
        a.side = m.group(8).equals("-") ? NONE : Integer.parseInt(m.group(8));
        if (w.walkers.size() == 4 || w.closed.contains(a.cell)) return false;
        return w.walkers.add(a);
    }

    static boolean canBecome(String start) {
        if (parse(start) != null || start.isEmpty()) return true;
        for (int k = start.length() - 1; k >= 1 && k >= start.length() - 5; k--) {
            String head = start.substring(0, k);
            if (parse(head) == null) continue;
            for (String part : PARTS) {
                if (part.startsWith(start.substring(k)) && parse(head + part) != null) return true;
            }
        }
        return false;
    }

    int fault() {
        for (int n = 1; n <= text.length(); n++) if (!canBecome(text.substring(0, n))) return n - 1;
        return parse(text) == null ? text.length() : NONE;
    }

    int wood() {
        World told = parse(text);
        if (told == null) return STATE;
        world = told;
        before.clear();
        slots = new World[2];
        return 10 * told.traps.size() + told.walkers.size();
    }

    private boolean noTrap(int t) {
        return t < 0 || t >= world.traps.size();
    }

    private boolean noWalker(int w) {
        return w < 0 || w >= world.walkers.size();
    }

    private boolean noCell(int c) {
        return c < 0 || c > 11;
    }

    int trap(int trap, int what) {
        if (noTrap(trap)) return UNKNOWN;
        Trap t = world.traps.get(trap);
        int[] told = {t.cell, t.side, t.kind, bits(t.off), t.armed ? 1 : 0, t.woken ? 1 : 0,
            (t.known[0] ? 1 : 0) + (t.known[1] ? 2 : 0)};
        return what < 0 || what >= told.length ? OUTSIDE : told[what];
    }

    int walker(int walker, int what) {
        if (noWalker(walker)) return UNKNOWN;
        Walker w = world.walkers.get(walker);
        int[] told = {w.cell, w.side, w.by == NONE ? 0 : 1, w.by};
        return what < 0 || what >= told.length ? OUTSIDE : told[what];
    }

    int near(int cell) {
        return noCell(cell) ? UNKNOWN : bits(world.near(cell));
    }

    int frost(boolean is) {
        boolean was = world.frost;
        world.frost = is;
        return was == is ? 0 : 1;
    }

    private void act() {
        before.add(world.copy());
        if (before.size() > 16) before.remove(0);
    }

    int step(int walker, int cell) {
        if (noWalker(walker) || noCell(cell)) return UNKNOWN;
        Walker w = world.walkers.get(walker);
        if (w.by != NONE || !world.near(w.cell).contains(cell)) return STATE;
        act();
        return bits(world.step(walker, cell));
    }

    int arm(int trap) {
        if (noTrap(trap)) return UNKNOWN;
        if (world.traps.get(trap).armed) return STATE;
        act();
        world.traps.get(trap).armed = true;
        return world.traps.get(trap).side;
    }

    private List<Integer> seen(int side, int cell) {
        List<Integer> found = new ArrayList<>();
        for (int t = 0; t < world.traps.size(); t++) {
            int c = world.traps.get(t).cell;
            int apart = Math.abs(c / 4 - cell / 4) + Math.abs(c % 4 - cell % 4);
            if (apart <= 1 && !world.traps.get(t).known[side]) found.add(t);
        }
        return found;
    }

    int look(int side, int cell) {
        if (noCell(cell)) return UNKNOWN;
        if (side != 0 && side != 1) return OUTSIDE;
        act();
        List<Integer> found = seen(side, cell);
        for (int t : found) world.traps.get(t).known[side] = true;
        return bits(found);
    }

    int free(int walker) {
        if (noWalker(walker)) return UNKNOWN;
        if (world.walkers.get(walker).by == NONE) return STATE;
        act();
        int by = world.walkers.get(walker).by;
        world.walkers.get(walker).by = NONE;
        return by;
    }

    int undo() {
        if (before.isEmpty()) return STATE;
        boolean frost = world.frost;
        world = before.remove(before.size() - 1);
        world.frost = frost;
        return before.size();
    }

    int sprung(int trap) {
        return noTrap(trap) ? UNKNOWN : bits(world.copy().spring(trap));
    }

    int rings() {
        int n = world.traps.size();
        boolean[][] leads = new boolean[n][n];
        for (int i = 0; i < n; i++) for (int j : world.traps.get(i).off) leads[i][j] = true;
        for (int k = 0; k < n; k++) for (int i = 0; i < n; i++) for (int j = 0; j < n; j++) {
            leads[i][j] |= leads[i][k] && leads[k][j];
        }
        int bits = 0;
        for (int i = 0; i < n; i++) if (leads[i][i]) bits |= 1 << i;
        return bits;
    }

    private int sprungByAll(int set) {
        World then = world.copy();
        int bits = 0;
        for (int t = 0; t < then.traps.size(); t++) if ((set >> t & 1) != 0) bits |= bits(then.spring(t));
        return bits;
    }

    int all() {
        int sets = 1 << world.traps.size();
        int most = sprungByAll(sets - 1);
        for (int size = 0; size <= 6; size++) for (int set = 0; set < sets; set++) {
            if (Integer.bitCount(set) == size && sprungByAll(set) == most) return set;
        }
        return Integer.MIN_VALUE;
    }

    int first(int set) {
        if (set < 0 || set >= 1 << world.traps.size()) return OUTSIDE;
        int bits = 0;
        for (int t = 0; t < world.traps.size(); t++) {
            World then = world.copy();
            then.frost = false;
            for (Trap each : then.traps) each.armed = true;
            if (bits(then.spring(t)) == set) bits |= 1 << t;
        }
        return bits;
    }

    /** The first of the ways of so many steps, tried in the order of cells; null: none. */
    private List<Integer> way(int side, List<Integer> gone, int from, int to, int steps) {
        if (steps == 0) return from == to ? new ArrayList<>(gone) : null;
        for (int c : world.near(from)) {
            int on = world.trapOn(c);
            boolean shuns = on != NONE && side != NONE && world.traps.get(on).known[side]
                    && world.traps.get(on).armed && world.traps.get(on).kind != 3;
            if (shuns || gone.contains(c)) continue;
            gone.add(c);
            List<Integer> found = way(side, gone, c, to, steps - 1);
            gone.remove(gone.size() - 1);
            if (found != null) return found;
        }
        return null;
    }

    private List<Integer> way(int walker, int cell) {
        Walker w = world.walkers.get(walker);
        for (int steps = 0; steps < 12; steps++) {
            List<Integer> found = way(w.side, new ArrayList<>(), w.cell, cell, steps);
            if (found != null) return found;
        }
        return null;
    }

    int safe(int walker, int cell) {
        if (noWalker(walker) || noCell(cell)) return UNKNOWN;
        if (world.walkers.get(walker).by != NONE) return STATE;
        List<Integer> found = way(walker, cell);
        return found == null ? NONE : found.size();
    }

    int safeAt(int walker, int cell, int i) {
        if (noWalker(walker) || noCell(cell)) return UNKNOWN;
        if (world.walkers.get(walker).by != NONE) return STATE;
        List<Integer> found = way(walker, cell);
        return found == null || i < 0 || i >= found.size() ? NONE : found.get(i);
    }

    int toLook(int side) {
        if (side != 0 && side != 1) return OUTSIDE;
        int best = 0;
        for (int c = 1; c < 12; c++) if (seen(side, c).size() > seen(side, best).size()) best = c;
        return best;
    }

    int strays(int walker, int n, boolean upper) {
        if (noWalker(walker)) return UNKNOWN;
        if (n < 0 || n > 4) return OUTSIDE;
        if (world.walkers.get(walker).by != NONE) return STATE;
        BigInteger[] chance = world.chance(walker, n);
        return (upper ? chance[0] : chance[1]).intValueExact();
    }

    int oneMore(int walker, int n) {
        if (noWalker(walker)) return UNKNOWN;
        if (n < 1 || n > 3) return OUTSIDE;
        if (world.walkers.get(walker).by != NONE) return STATE;
        if (world.traps.size() == 6) return FULL;
        int best = NONE;
        BigInteger[] most = null;
        for (int c = 0; c < 12; c++) {
            if (world.closed.contains(c) || world.trapOn(c) != NONE) continue;
            World then = world.copy();
            Trap net = new Trap();
            net.cell = c;
            net.kind = 4;
            then.traps.add(net);
            BigInteger[] chance = then.chance(walker, n);
            if (most == null || chance[0].multiply(most[1]).compareTo(most[0].multiply(chance[1])) > 0) {
                most = chance;
                best = c;
            }
        }
        return best;
    }

    long seed(long v) {
        long was = seed.longValue();
        seed = BigInteger.valueOf(v);
        return was;
    }

    int night(int m) {
        if (m < 1 || m > 40) return OUTSIDE;
        World then = world.copy();
        BigInteger all = BigInteger.ONE.shiftLeft(64);
        for (int i = 0; i < m; i++) for (int w = 0; w < then.walkers.size(); w++) {
            List<Integer> ways = then.near(then.walkers.get(w).cell);
            if (then.walkers.get(w).by != NONE || ways.isEmpty()) continue;
            seed = seed.multiply(new BigInteger("6364136223846793005")).add(new BigInteger("1442695040888963407")).mod(all);
            then.step(w, ways.get(seed.shiftRight(33).mod(BigInteger.valueOf(ways.size())).intValue()));
        }
        return then.caught();
    }

    int keep(int slot) {
        if (slot != 0 && slot != 1) return UNKNOWN;
        slots[slot] = world.copy();
        return world.free();
    }

    int again(int slot) {
        if (slot != 0 && slot != 1) return UNKNOWN;
        if (slots[slot] == null) return STATE;
        world = slots[slot].copy();
        before.clear();
        return world.free();
    }

    int count(int what) {
        int armed = 0;
        int[] known = new int[2];
        for (int t = 0; t < world.traps.size(); t++) {
            if (world.traps.get(t).armed) armed |= 1 << t;
            for (int s = 0; s < 2; s++) if (world.traps.get(t).known[s]) known[s] |= 1 << t;
        }
        int[] told = {text.length(), world.traps.size(), world.walkers.size(), armed, world.caught(), known[0],
            known[1], bits(world.closed), before.size(), world.frost ? 1 : 0};
        return what < 0 || what >= told.length ? OUTSIDE : told[what];
    }
}
