import java.util.Random;

/** Random runs of at most 512 calls, each answer beside the model's; the numbers drawn are the same every time. */
public final class AgainstModel {
    private static final int RUNS = 1700;
    private static final String SIGNS = "FTWXG-0123456789x";
    private final Random random;
    private final TrapsWatchTraps x = new TrapsWatchTraps();
    private final WoodModel m = new WoodModel();
    private final StringBuilder log = new StringBuilder();
    private int calls = 0;

    private AgainstModel(long seed) {
        random = new Random(seed);
    }

    public static void main(String[] args) {
        for (int run = 0; run < RUNS && !Due.isWrong(); run++) {
            new AgainstModel(run).run();
        }
        Due.end();
    }

    private void run() {
        // A text told last takes up to 67 calls more: all stay within the 512 that are promised.
        int length = 40 + random.nextInt(400);
        tellWood();
        while (calls < length && !Due.isWrong()) {
            if (random.nextInt(60) == 0) {
                tellWood();
            } else {
                call();
            }
        }
    }

    private void same(String call, long got, long want) {
        calls++;
        log.append(call).append(" -> ").append(want).append('\n');
        if (got != want) {
            System.out.println(log);
        }
        Due.due(call, got, want);
    }

    private void tellWood() {
        String text = random.nextInt(5) == 0 ? brokenText() : goodText();
        if (random.nextInt(12) != 0) same("wipe()", x.wipe(), m.wipe());
        for (int at = 0; at < text.length(); ) {
            int n = Math.min(text.length() - at, 1 + random.nextInt(8));
            long v = random.nextLong();
            for (int i = 0; i < n; i++) v = v << 8 | text.charAt(at + i);
            write(n, v);
            at += n;
        }
        same("fault() of " + text, x.fault(), m.fault());
        same("wood()", x.wood(), m.wood());
    }

    private void write(int n, long v) {
        same("write(" + n + ", " + v + ")", x.write(n, v), m.write(n, v));
    }

    private String goodText() {
        String text = "F";
        int tries = random.nextInt(40);
        for (int i = 0; i < tries; i++) {
            String more = text + part();
            if (more.length() <= 64 && WoodModel.parse(more) != null) text = more;
        }
        return text;
    }

    private String part() {
        int cell = random.nextInt(12);
        String cc = "" + cell / 10 + cell % 10;
        int kind = random.nextInt(10);
        if (kind < 4) return "T" + cc + random.nextInt(2) + random.nextInt(5);
        if (kind < 7) return "W" + random.nextInt(6) + random.nextInt(6);
        if (kind < 8) return "X" + cc;
        return "G" + cc + "01-".charAt(random.nextInt(3));
    }

    private String brokenText() {
        StringBuilder text = new StringBuilder(goodText());
        for (int i = random.nextInt(6); i > 0 && text.length() < 58; i--) text.append(part());
        int at = random.nextInt(text.length());
        int how = random.nextInt(4);
        if (how == 0) text.setCharAt(at, SIGNS.charAt(random.nextInt(SIGNS.length())));
        if (how == 1) text.setLength(at);
        if (how == 2) text.setCharAt(at, (char) random.nextInt(256));
        return text.toString();
    }

    /** A number that is mostly as told, now and then just beside, now and then far off. */
    private int number(int below) {
        int how = random.nextInt(60);
        if (how == 0) return -1;
        if (how == 1) return below;
        if (how == 2) return random.nextInt();
        if (how == 3) return random.nextBoolean() ? Integer.MIN_VALUE : Integer.MAX_VALUE;
        // NONE and the refusals are among these, and numbers by which a shift wraps.
        if (how == 4) return random.nextInt(141) - 70;
        return random.nextInt(below);
    }

    private void call() {
        switch (random.nextInt(9)) {
            case 0: case 1: case 2: stepNear(); break;
            case 3: act(); break;
            case 4: change(); break;
            case 5: wires(); break;
            case 6: ways(); break;
            case 7: chances(); break;
            default: ask();
        }
    }

    private void stepNear() {
        int w = number(Math.max(1, m.count(2)));
        int near = m.walker(w, 0) < 0 ? 0 : m.near(m.walker(w, 0));
        int c = number(12);
        for (int i = 0; i < 12 && random.nextInt(40) != 0 && (near >> Math.floorMod(c, 12) & 1) == 0; i++) c = number(12);
        same("step(" + w + ", " + c + ")", x.step(w, c), m.step(w, c));
    }

    private void act() {
        int how = random.nextInt(5);
        int a = number(6);
        int b = number(12);
        if (how == 0) same("arm(" + a + ")", x.arm(a), m.arm(a));
        if (how == 1) same("look(" + a % 3 + ", " + b + ")", x.look(a % 3, b), m.look(a % 3, b));
        if (how == 2 || how == 3) same("free(" + a + ")", x.free(a), m.free(a));
        if (how == 4) same("undo()", x.undo(), m.undo());
    }

    private void change() {
        int how = random.nextInt(8);
        boolean is = random.nextInt(3) == 0;
        int slot = number(2);
        long v = random.nextLong();
        if (how == 0) same("frost(" + is + ")", x.frost(is), m.frost(is));
        if (how == 1) same("keep(" + slot + ")", x.keep(slot), m.keep(slot));
        if (how == 2) same("again(" + slot + ")", x.again(slot), m.again(slot));
        if (how == 3) same("seed(" + v + ")", x.seed(v), m.seed(v));
        if (how == 4) write(number(9), v);
        if (how == 5) same("undo()", x.undo(), m.undo());
        if (how == 6) same("free(" + slot + ")", x.free(slot), m.free(slot));
        if (how == 7) same("arm(" + slot + ")", x.arm(slot), m.arm(slot));
    }

    private void wires() {
        int t = number(6);
        int set = number(64);
        same("sprung(" + t + ")", x.sprung(t), m.sprung(t));
        same("rings()", x.rings(), m.rings());
        same("all()", x.all(), m.all());
        same("first(" + set + ")", x.first(set), m.first(set));
        int by = Math.max(0, m.sprung(t));
        same("first(" + by + ")", x.first(by), m.first(by));
    }

    private void ways() {
        int w = number(Math.max(1, m.count(2)));
        int c = number(12);
        int i = number(6);
        int side = number(2);
        if (random.nextBoolean()) same("safe(" + w + ", " + c + ")", x.safe(w, c), m.safe(w, c));
        same("safeAt(" + w + ", " + c + ", " + i + ")", x.safeAt(w, c, i), m.safeAt(w, c, i));
        same("toLook(" + side + ")", x.toLook(side), m.toLook(side));
    }

    private void chances() {
        int w = number(Math.max(1, m.count(2)));
        int n = number(5);
        int nights = number(41);
        same("strays(" + w + ", " + n + ", true)", x.strays(w, n, true), m.strays(w, n, true));
        same("strays(" + w + ", " + n + ", false)", x.strays(w, n, false), m.strays(w, n, false));
        same("oneMore(" + w + ", " + n + ")", x.oneMore(w, n), m.oneMore(w, n));
        same("night(" + nights + ")", x.night(nights), m.night(nights));
    }

    private void ask() {
        for (int i = 0; i < 3; i++) {
            int t = number(6);
            int w = number(4);
            int what = number(8);
            int cell = number(12);
            same("trap(" + t + ", " + what + ")", x.trap(t, what), m.trap(t, what));
            same("walker(" + w + ", " + what + ")", x.walker(w, what), m.walker(w, what));
            same("near(" + cell + ")", x.near(cell), m.near(cell));
            same("count(" + cell + ")", x.count(cell), m.count(cell));
        }
        same("fault()", x.fault(), m.fault());
    }
}
