/** What the tests of the project share: answers that are due, and woods written as plain texts. */
final class Due {
    private static int right = 0;
    private static int wrong = 0;
    private static String subject = "";

    private Due() {
    }

    /** What the answers behind this are about; it is told ahead of each that is not as due. */
    static void about(String what) {
        subject = what + ": ";
    }

    static void due(String call, long got, long want) {
        if (got == want) {
            right++;
            return;
        }
        wrong++;
        if (wrong <= 50) {
            System.out.println(subject + call + " answered " + got + ", due is " + want);
        }
    }

    static void dueTrue(String what, boolean holds) {
        due(what, holds ? 1 : 0, 1);
    }

    static boolean isWrong() {
        return wrong != 0;
    }

    /** Ends the test: exit code 1 if an answer was not as due, or none was asked for. */
    static void end() {
        System.out.println(right + " answers as due, " + wrong + " not");
        if (wrong != 0 || right == 0) {
            System.exit(1);
        }
    }

    /** Bits by their places. */
    static int bits(int... places) {
        int bits = 0;
        for (int place : places) {
            bits |= 1 << place;
        }
        return bits;
    }

    /** THE TEXT becomes this, whatever it was; it is written eight bytes at once. */
    static void tell(TrapsWatchTraps x, String text) {
        x.wipe();
        for (int at = 0; at < text.length(); at += 8) {
            String some = text.substring(at, Math.min(text.length(), at + 8));
            long v = 0;
            for (int i = 0; i < some.length(); i++) {
                v = v << 8 | some.charAt(i) & 255;
            }
            due("write of " + some, x.write(some.length(), v), at + some.length());
        }
    }

    static int faultOf(String text) {
        TrapsWatchTraps x = new TrapsWatchTraps();
        tell(x, text);
        return x.fault();
    }

    /** A new object whose wood this text is. */
    static TrapsWatchTraps woodOf(String text) {
        TrapsWatchTraps x = new TrapsWatchTraps();
        tell(x, text);
        dueTrue("wood() of " + text, x.wood() >= 0);
        return x;
    }

    /** All that can be asked without changing anything, so that two moments can be compared. */
    static String all(TrapsWatchTraps x) {
        StringBuilder told = new StringBuilder();
        for (int what = 0; what <= 9; what++) {
            told.append(x.count(what)).append(' ');
        }
        for (int t = 0; t < 6; t++) {
            for (int what = 0; what <= 6; what++) {
                told.append(x.trap(t, what)).append(' ');
            }
        }
        for (int w = 0; w < 4; w++) {
            for (int what = 0; what <= 3; what++) {
                told.append(x.walker(w, what)).append(' ');
            }
        }
        long seed = x.seed(0);
        x.seed(seed);
        return told.append(seed).append(' ').append(x.fault()).toString();
    }

    /** All that acts and frost change, in 21 calls: where all() would go beyond the 512 that an object promises. */
    static String brief(TrapsWatchTraps x) {
        StringBuilder told = new StringBuilder();
        for (int what = 3; what <= 9; what++) {
            told.append(x.count(what)).append(' ');
        }
        for (int w = 0; w < 4; w++) {
            told.append(x.walker(w, 0)).append(' ').append(x.walker(w, 3)).append(' ');
        }
        for (int t = 0; t < 6; t++) {
            told.append(x.trap(t, 5)).append(' ');
        }
        return told.toString();
    }

    static void dueSame(String what, String got, String want) {
        dueTrue(what + ": " + got + " instead of " + want, got.equals(want));
    }
}
