/** Promises 1 to 9: a new object, the text, its fault, the wood and what can be asked of it. */
public final class WoodTest {
    private static final String THREE = "FT0104T0214T0300W01W12G001G00-X04";

    private WoodTest() {
    }

    public static void main(String[] args) {
        newObject();
        write();
        wipe();
        faultOfSigns();
        faultOfTraps();
        faultOfWires();
        faultOfCells();
        faultOfEnds();
        wood();
        woodBeginsAnew();
        woodLeavesNothing();
        trap();
        walker();
        near();
        frost();
        Due.end();
    }

    private static void newObject() {
        TrapsWatchTraps x = new TrapsWatchTraps();
        for (int what = 0; what <= 9; what++) {
            Due.due("new: count(" + what + ")", x.count(what), 0);
        }
        Due.due("new: fault()", x.fault(), 0);
        Due.due("new: wood()", x.wood(), TrapsWatchTraps.STATE);
        Due.due("new: trap(0, 0)", x.trap(0, 0), TrapsWatchTraps.UNKNOWN);
        Due.due("new: walker(0, 0)", x.walker(0, 0), TrapsWatchTraps.UNKNOWN);
        Due.due("new: near(5)", x.near(5), Due.bits(1, 4, 6, 9));
        Due.due("new: seed(0)", x.seed(0), 0);
        Due.due("new: again(0)", x.again(0), TrapsWatchTraps.STATE);
        Due.due("new: again(1)", x.again(1), TrapsWatchTraps.STATE);
        Due.due("new: undo()", x.undo(), TrapsWatchTraps.STATE);
    }

    private static void write() {
        TrapsWatchTraps x = new TrapsWatchTraps();
        Due.due("write(0)", x.write(0, 70), TrapsWatchTraps.OUTSIDE);
        Due.due("write(-1)", x.write(-1, 70), TrapsWatchTraps.OUTSIDE);
        Due.due("write(9)", x.write(9, 70), TrapsWatchTraps.OUTSIDE);
        Due.due("write(least)", x.write(Integer.MIN_VALUE, 70), TrapsWatchTraps.OUTSIDE);
        Due.due("write(most)", x.write(Integer.MAX_VALUE, 70), TrapsWatchTraps.OUTSIDE);
        Due.due("bytes behind refusals", x.count(0), 0);
        // The bytes above the lowest n are not the text's.
        Due.due("write(1, ..F)", x.write(1, 0x5858585858585846L), 1);
        Due.due("write(3, ..X05)", x.write(3, 0x4646464646583035L), 4);
        Due.due("fault()", x.fault(), TrapsWatchTraps.NONE);
        Due.due("wood()", x.wood(), 0);
        Due.due("cells by bytes in their order", x.count(7), 1 << 5);
        Due.due("write(8, -1)", x.write(8, -1L), 12);
        Due.due("fault() at byte 255", x.fault(), 4);
        for (int n = 20; n <= 60; n += 8) {
            Due.due("write(8)", x.write(8, 0), n);
        }
        Due.due("write(5) of 4", x.write(5, 0), TrapsWatchTraps.FULL);
        Due.due("nothing came", x.count(0), 60);
        Due.due("write(4) of 4", x.write(4, 0), 64);
        Due.due("write(1) of 0", x.write(1, 0), TrapsWatchTraps.FULL);
        Due.due("OUTSIDE ahead of FULL", x.write(9, 0), TrapsWatchTraps.OUTSIDE);
        Due.due("how long it is", x.count(0), 64);
    }

    private static void wipe() {
        TrapsWatchTraps x = Due.woodOf(THREE);
        String wood = Due.all(x).substring(Due.all(x).indexOf(' '), Due.all(x).lastIndexOf(' '));
        Due.due("wipe()", x.wipe(), 33);
        Due.due("wipe() of none", x.wipe(), 0);
        Due.due("fault()", x.fault(), 0);
        String then = Due.all(x);
        Due.dueSame("the wood is not wiped", then.substring(then.indexOf(' '), then.lastIndexOf(' ')), wood);
    }

    private static void fault(String text, int want) {
        Due.due("fault of " + text, Due.faultOf(text), want);
    }

    private static void faultOfSigns() {
        int none = TrapsWatchTraps.NONE;
        fault("F", none);
        fault("f", 0);
        fault("\0", 0);
        fault("TF", 0);
        fault("FF", 1);
        fault("F ", 1);
        fault("Ft", 1);
        fault("F\u00c6", 1);
        fault("FX05Y", 4);
        fault("FX05\1", 4);
        fault(THREE, none);
        fault(THREE + "Q", 33);
        // A fault stays where it was, whatever comes behind it.
        fault("FX12X00X00", 3);
        fault("F?" + "X00X01", 1);
    }

    private static void faultOfTraps() {
        int none = TrapsWatchTraps.NONE;
        fault("FT0000", none);
        fault("FT1114", none);
        fault("FT2", 2);
        fault("FT-", 2);
        fault("FT:", 2);
        fault("FT/", 2);
        fault("FT12", 3);
        fault("FT0:", 3);
        fault("FT0/", 3);
        fault("FT092", 4);
        fault("FT09-", 4);
        fault("FT09/", 4);
        fault("FT0905", 5);
        fault("FT090/", 5);
        fault("FT0000T00", 8);
        fault("FT0000T0100", none);
        fault("FT1000T1100T1", 12);
        fault("FT1000T1", 8);
        fault("FT1000T11", 9);
        fault("FT1000T10", 8);
        String six = "FT0000T0100T0200T0300T0400T0500";
        fault(six, none);
        fault(six + "T", 31);
        fault(six + "G110", none);
        // A trap may lie where nobody can step, and where walkers stand.
        fault("FX05T0500", none);
        fault("FT0500X05", none);
        fault("FG050T0500", none);
    }

    private static void faultOfWires() {
        int none = TrapsWatchTraps.NONE;
        fault("FW", 1);
        fault("FT0000W", 6);
        fault("FT0000T0100W", 12);
        fault("FT0000T0100W0", 13);
        fault("FT0000T0100W2", 12);
        fault("FT0000T0100W/", 12);
        fault("FT0000T0100W00", 13);
        fault("FT0000T0100W02", 13);
        fault("FT0000T0100W0-", 13);
        // 32 above and below '1': a shift by these is one by 1.
        fault("FT0000T0100W0Q", 13);
        fault("FT0000T0100W0\21", 13);
        fault("FT0000T0100WQ", 12);
        fault("FT0000T0100W01", none);
        fault("FT0000T0100W01W0", 15);
        fault("FT0000T0100W01W10", none);
        fault("FT0000T0100W01W10W", 17);
        fault("FT0000T0100W01W10X", 18);
        fault("FT0000T0100W01W10T0200W01", 24);
        fault("FT0000T0100W01W10T0200W02", none);
        fault("FT0000T0100W01W10T0200W02W12W20W21W", 34);
        fault("FT0000T0100W01W10T0200W02W12W20W2", 33);
        fault("FT0000T0100W01W10T0200W02W12W20W20", 33);
        fault("FT0000T0100W01W10T0200W02W0", 26);
        fault("FT0000T0100W12T0200", 13);
    }

    private static void faultOfCells() {
        int none = TrapsWatchTraps.NONE;
        fault("FX00", none);
        fault("FX11", none);
        fault("FX2", 2);
        fault("FX12", 3);
        fault("FX00X00", 6);
        fault("FX10X11X1", 8);
        fault("FX00X01X02X03X04X05X06X07X08X09X0", 32);
        fault("FX00X01X02X03X04X05X06X07X08X09X10", none);
        fault("FX00X01X02X03X04X05X06X07X08X09G0", 32);
        fault("FX00X01X02X03X04X05X06X07X08X09G11-", none);
        fault("FX00X01X02X03X04X05X06X07X08X09G10-X1", 37);
        fault("FX00X01X02X03X04X05X06X07X08X09G10-X10", 37);
        fault("FX00X01X02X03X04X05X06X07X08X09X10G11-X", 38);
        fault("FX00X01X02X03X04X05X06X07X08X09X10X11X", 37);
        fault("FX00X01X02X03X04X05X06X07X08X09X10X11G", 37);
        fault("FG100G110X1", 10);
        fault("FG050X05", 7);
        fault("FX05G05", 6);
        fault("FX10X11G1", 8);
        fault("FG000", none);
        fault("FG111", none);
        fault("FG11-", none);
        fault("FG112", 4);
        fault("FG11/", 4);
        fault("FG11.", 4);
        // Nine below '0': its figure is -9, as NONE is.
        fault("FG00'", 4);
        fault("FG11'G000", 4);
        fault("FG12", 3);
        fault("FG3", 2);
        fault("FG000G000G001G00-", none);
        fault("FG000G000G001G00-G", 17);
        fault("FG000G000G001G00-X00", 19);
    }

    private static void faultOfEnds() {
        fault("FT", 2);
        fault("FT0", 3);
        fault("FT00", 4);
        fault("FT000", 5);
        fault("FX", 2);
        fault("FX1", 3);
        fault("FG", 2);
        fault("FG1", 3);
        fault("FG11", 4);
        // The length is set aside: the last part would not fit, yet no byte is wrong.
        String long64 = "FT0000T0100T0200T0300T0400T0500W01W02W03W04W05W10W12W13W14W15W20";
        fault(long64, TrapsWatchTraps.NONE);
        fault(long64.substring(0, 61) + "G11", 64);
    }

    private static void wood() {
        TrapsWatchTraps x = new TrapsWatchTraps();
        Due.tell(x, THREE);
        Due.due("the wood is still F", x.count(1) + x.count(2), 0);
        Due.due("wood()", x.wood(), 32);
        Due.due("the text stays", x.count(0), 33);
        Due.due("TRAPS", x.count(1), 3);
        Due.due("WALKERS", x.count(2), 2);
        Due.due("all ARMED", x.count(3), 7);
        Due.due("CAUGHT", x.count(4), 0);
        Due.due("POACHERS KNOW their own", x.count(5), Due.bits(0, 2));
        Due.due("KEEPERS KNOW their own", x.count(6), Due.bits(1));
        Due.due("closed CELLS", x.count(7), Due.bits(4));
        String then = Due.all(x);
        Due.due("a byte more", x.write(1, 'T'), 34);
        Due.due("wood() with a fault", x.wood(), TrapsWatchTraps.STATE);
        Due.due("the bytes stay", x.count(0), 34);
        x.wipe();
        Due.due("wood() of no text", x.wood(), TrapsWatchTraps.STATE);
        Due.tell(x, THREE);
        Due.dueSame("a refused wood changes nothing", Due.all(x), then);
        Due.tell(x, "F");
        Due.due("wood() of F", x.wood(), 0);
        Due.due("TRAPS of F", x.count(1), 0);
        Due.due("closed CELLS of F", x.count(7), 0);
        Due.tell(x, "FT0000T0100T0200T0300T0400T0500G000G001G00-G110");
        Due.due("wood() of the most", x.wood(), 64);
        Due.tell(x, "FT0000T0100");
        Due.due("wood() of two", x.wood(), 20);
        Due.due("no wires of an earlier wood", x.trap(0, 3), 0);
    }

    private static void woodBeginsAnew() {
        TrapsWatchTraps x = Due.woodOf(THREE);
        x.seed(77);
        Due.due("step(1, 1)", x.step(1, 1), 7);
        x.frost(true);
        x.keep(0);
        x.keep(1);
        x.look(0, 6);
        String broken = Due.all(x);
        x.write(1, '!');
        Due.due("wood() is refused", x.wood(), TrapsWatchTraps.STATE);
        Due.tell(x, THREE);
        Due.dueSame("acts, frost stay", Due.all(x), broken);
        Due.due("what was kept stays", x.again(1), 1);
        Due.due("wood()", x.wood(), 32);
        Due.due("no FROST", x.count(9), 0);
        Due.due("no ACTS", x.count(8), 0);
        Due.due("undo()", x.undo(), TrapsWatchTraps.STATE);
        Due.due("again(0)", x.again(0), TrapsWatchTraps.STATE);
        Due.due("again(1)", x.again(1), TrapsWatchTraps.STATE);
        Due.due("THE SEED stays", x.seed(1), 77);
        Due.due("all ARMED", x.count(3), 7);
        Due.due("nobody CAUGHT", x.count(4), 0);
        Due.due("where it was told", x.walker(1, 0), 0);
        Due.due("only their own", x.count(6), 2);
    }

    /** What an earlier wood had, the next one has not: kinds, what was woken, acts. */
    private static void woodLeavesNothing() {
        TrapsWatchTraps x = Due.woodOf("FT0002T0103T0204T0300G040");
        x.step(0, 0);
        Due.due("woken", x.trap(0, 5), 1);
        x.step(0, 4);
        Due.tell(x, "FT0003T0100T0201T0304G00-G010");
        Due.due("wood()", x.wood(), 42);
        Due.due("no ACTS", x.count(8), 0);
        Due.due("undo()", x.undo(), TrapsWatchTraps.STATE);
        Due.due("not woken", x.trap(0, 5), 0);
        Due.due("no SHAM any more", x.sprung(1), 2);
        Due.due("a SNARE where a SHAM was", x.step(0, 1), 2);
        Due.due("a BEAST is free", x.walker(0, 2), 0);
        Due.due("a WIRE where a NET was", x.step(0, 2), 4);
        Due.due("a BEAST is free", x.walker(0, 2), 0);
        Due.due("a NET where a SNARE was", x.step(0, 3), 8);
        Due.due("a BEAST is CAUGHT", x.walker(0, 3), 3);
        Due.tell(x, "FT0001T0101G040G050");
        Due.due("wood()", x.wood(), 22);
        Due.due("a WIRE where a DOUBLE one was", x.step(0, 0), 1);
        Due.due("it catches nobody", x.count(4), 0);
        Due.due("a WIRE where a SNARE was", x.step(1, 1), 2);
        Due.due("it catches nobody", x.count(4), 0);
    }

    private static void trap() {
        TrapsWatchTraps x = Due.woodOf("FT1102T0713T0000W02W01W20G060");
        int[][] want = {{11, 0, 2, 6, 1, 0, 1}, {7, 1, 3, 0, 1, 0, 2}, {0, 0, 0, 1, 1, 0, 1}};
        for (int t = 0; t < 3; t++) {
            for (int what = 0; what <= 6; what++) {
                Due.due("trap(" + t + ", " + what + ")", x.trap(t, what), want[t][what]);
            }
            Due.due("trap(" + t + ", 7)", x.trap(t, 7), TrapsWatchTraps.OUTSIDE);
            Due.due("trap(" + t + ", -1)", x.trap(t, -1), TrapsWatchTraps.OUTSIDE);
        }
        Due.due("trap(3, 0)", x.trap(3, 0), TrapsWatchTraps.UNKNOWN);
        Due.due("trap(-1, 0)", x.trap(-1, 0), TrapsWatchTraps.UNKNOWN);
        Due.due("UNKNOWN ahead of OUTSIDE", x.trap(6, 9), TrapsWatchTraps.UNKNOWN);
        Due.due("trap(most, 0)", x.trap(Integer.MAX_VALUE, 0), TrapsWatchTraps.UNKNOWN);
        x.look(1, 11);
        Due.due("both KNOW it", x.trap(0, 6), 3);
        x.step(0, 10);
        x.step(0, 11);
        Due.due("woken", x.trap(0, 5), 1);
        Due.due("ARMED", x.trap(0, 4), 1);
        x.step(0, 10);
        Due.due("SPRUNG by the step back", x.step(0, 11), Due.bits(0, 2));
        Due.due("not woken", x.trap(0, 5), 0);
        Due.due("not ARMED", x.trap(0, 4), 0);
        Due.due("all KNOW what SPRANG", x.trap(2, 6), 3);
        Due.due("a SHAM stays ARMED", x.trap(1, 4), 1);
    }

    private static void walker() {
        TrapsWatchTraps x = Due.woodOf("FT0500G040G091G10-");
        int[][] want = {{4, 0, 0, -9}, {9, 1, 0, -9}, {10, -9, 0, -9}};
        for (int w = 0; w < 3; w++) {
            for (int what = 0; what <= 3; what++) {
                Due.due("walker(" + w + ", " + what + ")", x.walker(w, what), want[w][what]);
            }
            Due.due("walker(" + w + ", 4)", x.walker(w, 4), TrapsWatchTraps.OUTSIDE);
            Due.due("walker(" + w + ", -1)", x.walker(w, -1), TrapsWatchTraps.OUTSIDE);
        }
        Due.due("walker(3, 0)", x.walker(3, 0), TrapsWatchTraps.UNKNOWN);
        Due.due("walker(-1, 0)", x.walker(-1, 0), TrapsWatchTraps.UNKNOWN);
        Due.due("UNKNOWN ahead of OUTSIDE", x.walker(4, 4), TrapsWatchTraps.UNKNOWN);
        x.step(1, 5);
        Due.due("where it is", x.walker(1, 0), 5);
        Due.due("CAUGHT", x.walker(1, 2), 1);
        Due.due("by which TRAP", x.walker(1, 3), 0);
        Due.due("another is free", x.walker(0, 2), 0);
    }

    private static void near() {
        TrapsWatchTraps x = new TrapsWatchTraps();
        int[][] want = {{1, 4}, {0, 2, 5}, {1, 3, 6}, {2, 7}, {0, 5, 8}, {1, 4, 6, 9}, {2, 5, 7, 10}, {3, 6, 11},
            {4, 9}, {5, 8, 10}, {6, 9, 11}, {7, 10}};
        for (int c = 0; c < 12; c++) {
            Due.due("near(" + c + ")", x.near(c), Due.bits(want[c]));
        }
        Due.due("near(12)", x.near(12), TrapsWatchTraps.UNKNOWN);
        Due.due("near(-1)", x.near(-1), TrapsWatchTraps.UNKNOWN);
        Due.due("near(least)", x.near(Integer.MIN_VALUE), TrapsWatchTraps.UNKNOWN);
        TrapsWatchTraps y = Due.woodOf("FX05X00T0604G040");
        Due.due("near(4) with closed ones", y.near(4), Due.bits(8));
        Due.due("near(1) with closed ones", y.near(1), Due.bits(2));
        Due.due("from a closed one", y.near(5), Due.bits(1, 4, 6, 9));
        Due.due("near(10) with a TRAP", y.near(10), Due.bits(6, 9, 11));
    }

    private static void frost() {
        TrapsWatchTraps x = Due.woodOf(THREE);
        Due.due("frost(false)", x.frost(false), 0);
        Due.due("frost(true)", x.frost(true), 1);
        Due.due("there is", x.count(9), 1);
        Due.due("frost(true) anew", x.frost(true), 0);
        Due.due("no ACT", x.count(8), 0);
        Due.due("nothing SPRINGS", x.step(1, 1), 0);
        Due.due("still ARMED", x.count(3), 7);
        Due.due("nobody CAUGHT", x.count(4), 0);
        Due.due("frost(false) behind it", x.frost(false), 1);
        Due.due("there is none", x.count(9), 0);
        x.step(1, 0);
        Due.due("all SPRING", x.step(1, 1), 7);
    }
}
