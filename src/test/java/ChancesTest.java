/** Promises 22 to 25: how likely one that strays is caught, where to set one more, the seed, nights by it. */
public final class ChancesTest {
    private ChancesTest() {
    }

    public static void main(String[] args) {
        straysIsRefused();
        strays();
        straysWakes();
        oneMoreIsRefused();
        oneMore();
        seed();
        night();
        nightsAndWires();
        Due.end();
    }

    private static void chance(TrapsWatchTraps x, int walker, int n, int upper, int lower) {
        Due.due("strays(" + walker + ", " + n + ", true)", x.strays(walker, n, true), upper);
        Due.due("strays(" + walker + ", " + n + ", false)", x.strays(walker, n, false), lower);
    }

    private static void straysIsRefused() {
        TrapsWatchTraps x = Due.woodOf("FT0100G000");
        for (int i = 0; i < 2; i++) {
            boolean upper = i == 0;
            Due.due("strays(1, 0)", x.strays(1, 0, upper), TrapsWatchTraps.UNKNOWN);
            Due.due("strays(-1, 0)", x.strays(-1, 0, upper), TrapsWatchTraps.UNKNOWN);
            Due.due("UNKNOWN ahead of OUTSIDE", x.strays(4, 5, upper), TrapsWatchTraps.UNKNOWN);
            Due.due("strays(0, 5)", x.strays(0, 5, upper), TrapsWatchTraps.OUTSIDE);
            Due.due("strays(0, -1)", x.strays(0, -1, upper), TrapsWatchTraps.OUTSIDE);
        }
        x.step(0, 1);
        for (int i = 0; i < 2; i++) {
            Due.due("strays of a CAUGHT one", x.strays(0, 0, i == 0), TrapsWatchTraps.STATE);
            Due.due("OUTSIDE ahead of STATE", x.strays(0, 5, i == 0), TrapsWatchTraps.OUTSIDE);
        }
    }

    private static void strays() {
        TrapsWatchTraps x = Due.woodOf("FT0100G000G00-G051");
        String then = Due.all(x);
        chance(x, 0, 0, 0, 1);
        chance(x, 0, 1, 1, 2);
        chance(x, 1, 1, 0, 1);
        chance(x, 1, 4, 0, 1);
        chance(x, 2, 1, 1, 4);
        // 4 (1/2), then 0, 5, 8 (1/3 each); from 0 one half, from 5 a fourth, from 8 none.
        chance(x, 0, 2, 1, 2);
        chance(x, 0, 3, 5, 8);
        chance(x, 2, 2, 1, 4);
        Due.dueSame("nothing changes", Due.all(x), then);
        x.frost(true);
        chance(x, 0, 4, 0, 1);
        TrapsWatchTraps shut = Due.woodOf("FX01X04T0004G000");
        chance(shut, 0, 4, 0, 1);
        TrapsWatchTraps lane = Due.woodOf("FX04X05X02T0104G000");
        chance(lane, 0, 1, 1, 1);
        chance(lane, 0, 4, 1, 1);
        // A WIRE that sets off the SNARE: gone when one comes there.
        TrapsWatchTraps wire = Due.woodOf("FX04X05X06X07T0101T0200W01G000");
        chance(wire, 0, 4, 0, 1);
        wire.step(0, 1);
        wire.arm(1);
        chance(wire, 0, 1, 1, 2);
        chance(wire, 0, 3, 3, 4);
        // A BEAST sets off the NET it would have come to next, and goes on: its steps count all the same.
        TrapsWatchTraps beast = Due.woodOf("FX04X05X06X07T0101T0204T0304W01G00-");
        chance(beast, 0, 2, 0, 1);
        chance(beast, 0, 3, 1, 4);
        chance(beast, 0, 4, 1, 4);
        // A SHAM sets off nothing, and does not catch.
        TrapsWatchTraps sham = Due.woodOf("FX04X05X06X07T0103T0200W01G000");
        chance(sham, 0, 2, 1, 2);
        // A NET catches BEASTS, too; one on its own CELL does when it comes back.
        TrapsWatchTraps net = Due.woodOf("FX04X05X02T0004G00-");
        chance(net, 0, 1, 0, 1);
        chance(net, 0, 2, 1, 1);
        TrapsWatchTraps more = Due.woodOf("FT0004T0704G05-");
        // From 1, 4: a third each; from 6: a fourth; from 9: none.
        chance(more, 0, 2, 11, 48);
        chance(more, 0, 4, 2887, 6912);
    }

    private static void straysWakes() {
        TrapsWatchTraps x = Due.woodOf("FX04X05X06X07X03T0112G000G02-");
        chance(x, 0, 1, 0, 1);
        chance(x, 0, 2, 0, 1);
        chance(x, 0, 3, 1, 1);
        chance(x, 1, 4, 0, 1);
        x.step(0, 1);
        Due.due("woken", x.trap(0, 5), 1);
        chance(x, 0, 1, 0, 1);
        chance(x, 0, 2, 1, 1);
        x.frost(true);
        chance(x, 0, 2, 0, 1);
        x.frost(false);
        x.step(0, 0);
        chance(x, 0, 1, 1, 1);
        Due.due("a BEAST makes it SPRING", x.step(1, 1), 1);
        chance(x, 0, 4, 0, 1);
        x.arm(0);
        chance(x, 0, 2, 0, 1);
        chance(x, 0, 3, 1, 1);
    }

    private static void oneMoreIsRefused() {
        TrapsWatchTraps x = Due.woodOf("FT0000T0100T0200T0300T0400G050");
        Due.due("oneMore(1, 1)", x.oneMore(1, 1), TrapsWatchTraps.UNKNOWN);
        Due.due("oneMore(-1, 1)", x.oneMore(-1, 1), TrapsWatchTraps.UNKNOWN);
        Due.due("oneMore(0, 0)", x.oneMore(0, 0), TrapsWatchTraps.OUTSIDE);
        Due.due("oneMore(0, 4)", x.oneMore(0, 4), TrapsWatchTraps.OUTSIDE);
        Due.due("UNKNOWN ahead of OUTSIDE", x.oneMore(1, 4), TrapsWatchTraps.UNKNOWN);
        Due.due("oneMore with 5", x.oneMore(0, 1), 6);
        x.step(0, 4);
        Due.due("of a CAUGHT one", x.oneMore(0, 1), TrapsWatchTraps.STATE);
        Due.due("OUTSIDE ahead of STATE", x.oneMore(0, 4), TrapsWatchTraps.OUTSIDE);
        TrapsWatchTraps six = Due.woodOf("FT0000T0100T0200T0300T0400T1103G050");
        Due.due("with 6", six.oneMore(0, 1), TrapsWatchTraps.FULL);
        Due.due("OUTSIDE ahead of FULL", six.oneMore(0, 0), TrapsWatchTraps.OUTSIDE);
        six.step(0, 4);
        Due.due("STATE ahead of FULL", six.oneMore(0, 1), TrapsWatchTraps.STATE);
    }

    private static void oneMore() {
        TrapsWatchTraps x = Due.woodOf("FG00-G050G11-");
        String then = Due.all(x);
        Due.due("oneMore(0, 1)", x.oneMore(0, 1), 1);
        Due.due("oneMore(0, 2): back where it was", x.oneMore(0, 2), 1);
        Due.due("oneMore(1, 1)", x.oneMore(1, 1), 1);
        // On 5: a third from 1, 4, 9, a fourth from 6, in all 5/16; on its neighbours 1/4.
        Due.due("oneMore(1, 2): where it comes back", x.oneMore(1, 2), 5);
        Due.due("oneMore(2, 1)", x.oneMore(2, 1), 7);
        Due.dueSame("nothing changes", Due.all(x), then);
        x.frost(true);
        Due.due("in FROST all are alike", x.oneMore(2, 3), 0);
        TrapsWatchTraps lane = Due.woodOf("FX04X05X06X07X02G00-");
        Due.due("the only way", lane.oneMore(0, 1), 1);
        TrapsWatchTraps taken = Due.woodOf("FX00X01T0203T0600T0700G03-");
        Due.due("not where a TRAP is: no other is come to", taken.oneMore(0, 1), 3);
        Due.due("two STEPS", taken.oneMore(0, 2), 3);
        TrapsWatchTraps shut = Due.woodOf("FX01X04G000");
        Due.due("shut in: the least", shut.oneMore(0, 3), 0);
        TrapsWatchTraps none = Due.woodOf("FX02X03X04X05X06X07X08X09X10X11T0003T0103G000");
        Due.due("no such CELL", none.oneMore(0, 1), TrapsWatchTraps.NONE);
        TrapsWatchTraps rest = Due.woodOf("FX00X01X02X03X04X05X06X07X08X09T1103G110");
        Due.due("the last CELL", rest.oneMore(0, 1), 10);
        // With the SNARE on 1 known to catch, a NET on 4 makes it sure.
        Due.due("beside a SNARE", Due.woodOf("FT0100G000").oneMore(0, 1), 4);
    }

    private static void seed() {
        TrapsWatchTraps x = new TrapsWatchTraps();
        Due.due("seed(most)", x.seed(Long.MAX_VALUE), 0);
        Due.due("seed(least)", x.seed(Long.MIN_VALUE), Long.MAX_VALUE);
        Due.due("seed(-5)", x.seed(-5), Long.MIN_VALUE);
        Due.due("seed(0)", x.seed(0), -5);
        Due.due("no ACT", x.count(8), 0);
    }

    private static long next(long seed, int times) {
        long x = seed;
        for (int i = 0; i < times; i++) {
            x = x * 6364136223846793005L + 1442695040888963407L;
        }
        return x;
    }

    private static void night() {
        TrapsWatchTraps x = Due.woodOf("FT0104G00-G051");
        Due.due("night(0)", x.night(0), TrapsWatchTraps.OUTSIDE);
        Due.due("night(41)", x.night(41), TrapsWatchTraps.OUTSIDE);
        Due.due("night(-1)", x.night(-1), TrapsWatchTraps.OUTSIDE);
        Due.due("no draw", x.seed(0), 0);
        String then = Due.all(x);
        for (int seed = -60; seed < 60; seed++) {
            x.seed(seed * 7777777777777777L);
            long one = next(seed * 7777777777777777L, 1);
            long two = next(one, 1);
            int first = (int) (one >>> 33) % 2 == 0 ? 1 : 0;
            int second = (int) (two >>> 33) % 4 == 0 && first == 0 ? 2 : 0;
            Due.due("night(1) of " + seed, x.night(1), first | second);
            Due.due("two draws", x.seed(0), two);
        }
        Due.dueSame("nothing changes but the seed", Due.all(x), then);
        TrapsWatchTraps lane = Due.woodOf("FX01X05X09G00-G000X03X07X11X02X06X10");
        lane.seed(9);
        Due.due("night(40)", lane.night(40), 0);
        Due.due("80 draws", lane.seed(9), next(9, 80));
        TrapsWatchTraps shut = Due.woodOf("FX01X04G000");
        shut.seed(9);
        Due.due("shut in", shut.night(40), 0);
        Due.due("none drawn", shut.seed(9), 9);
        TrapsWatchTraps none = new TrapsWatchTraps();
        none.seed(9);
        Due.due("no WALKERS", none.night(40), 0);
        Due.due("none drawn", none.seed(9), 9);
    }

    private static void nightsAndWires() {
        // The first one's only step springs what the second stands on: it does not stray any more.
        TrapsWatchTraps x = Due.woodOf("FX04X05X02T0101T1100W01G000G111G111");
        x.seed(3);
        Due.due("both on the SNARE", x.night(40), 6);
        Due.due("draws of one alone", x.seed(3), next(3, 40));
        x.frost(true);
        Due.due("in FROST", x.night(1), 0);
        Due.due("draws of all", x.seed(3), next(3, 3));
        x.frost(false);
        x.step(0, 1);
        Due.due("CAUGHT ahead of it", x.night(1), 6);
        Due.due("draws of one alone", x.seed(3), next(3, 1));
        x.free(2);
        Due.due("free ones alone stray", x.night(1), 2);
        Due.due("draws of two", x.seed(3), next(3, 2));
        // A DOUBLE one is woken by the first, and has both of them by the second.
        TrapsWatchTraps y = Due.woodOf("FX04X05X02T0102G000G000");
        Due.due("night(1)", y.night(1), 3);
        Due.due("it is not woken behind that", y.trap(0, 5), 0);
        Due.due("it is ARMED", y.trap(0, 4), 1);
        Due.due("they are free", y.count(4), 0);
        y.step(0, 1);
        y.step(0, 0);
        Due.due("woken ahead of it", y.night(1), 1);
        Due.due("no ACT", y.count(8), 2);
    }
}
