/** The sentences about a new object, THE TEXT, its FAULT and THE WOOD: promises 1 to 5 and their terms. */
final class EdgesOfText {
    private static final int NONE = TrapsWatchTraps.NONE, STATE = TrapsWatchTraps.STATE;
    private static final int OUTSIDE = TrapsWatchTraps.OUTSIDE, FULL = TrapsWatchTraps.FULL;
    private static final String SIX = "FT0000T0100T0200T0300T0400T0500";
    private static final String LOW_CLOSED = "FX00X01X02X03X04X05X06X07X08X09";

    private EdgesOfText() {
    }

    static void run() {
        newObject();
        writeTakes();
        writeOutside();
        writeFull();
        text64();
        wipe();
        signs();
        sixTraps();
        trapNumbers();
        cellFigures();
        trapCells();
        trapSides();
        trapKinds();
        wires();
        closedOnce();
        closedUnderWalkers();
        closedUnderTraps();
        fourWalkers();
        walkerCells();
        walkerSides();
        faultIsFirst();
        faultBeyondLength();
        faultAtEnd();
        faultNone();
        woodBeginsAnew();
        woodTells();
        woodRefused();
    }

    private static String cc(int cell) {
        return "" + cell / 10 + cell % 10;
    }

    /** The fault of a text, and that it is a wood just then when there is none. */
    private static void fault(String text, int want) {
        TrapsWatchTraps x = new TrapsWatchTraps();
        Due.tell(x, text);
        Due.due("fault() of " + text, x.fault(), want);
        int told = text.replaceAll("[^T]", "").length() * 10 + text.replaceAll("[^G]", "").length();
        Due.due("wood() of " + text, x.wood(), want == NONE ? told : STATE);
        Due.due("bytes of " + text, x.count(0), text.length());
    }

    /** All 256 bytes behind a text: those of good can come there, the others are its fault. */
    private static void fork(String text, String good) {
        for (int sign = 0; sign < 256; sign++) {
            TrapsWatchTraps x = new TrapsWatchTraps();
            Due.tell(x, text + (char) sign);
            boolean isGood = good.indexOf(sign) >= 0;
            Due.due("byte " + sign + " behind " + text, x.fault() == text.length() ? 0 : 1, isGood ? 1 : 0);
        }
    }

    private static void newObject() {
        Sentence.of("Promise 1", "A wood without traps.");
        TrapsWatchTraps x = new TrapsWatchTraps();
        Due.due("TRAPS", x.count(1), 0);
        Due.due("trap(0, 0)", x.trap(0, 0), TrapsWatchTraps.UNKNOWN);
        Sentence.of("Terms", "At first THE WOOD is F.");
        Twins.same("a new object is as one whose wood is F", Twins.NEW, y -> {
            Due.tell(y, "F");
            Due.due("wood() of F", y.wood(), 0);
            Due.due("wipe()", y.wipe(), 1);
        });
        for (int what = 0; what <= 9; what++) Due.due("count(" + what + ")", x.count(what), 0);
        Due.due("walker(0, 0)", x.walker(0, 0), TrapsWatchTraps.UNKNOWN);
        Due.due("near(0)", x.near(0), Due.bits(1, 4));
        Due.due("fault() of no bytes", x.fault(), 0);
    }

    private static void writeTakes() {
        Sentence.of("Promise 2", "n bytes (1 to 8) of v, the lowest n, the highest of these first, come behind THE TEXT: "
                + "how long it is.");
        String text = "FT0713G111X05T1102W01W10";
        for (int n = 1; n <= 8; n++) {
            for (long above : new long[] {0, -1L, 0x4646464646464646L}) {
                TrapsWatchTraps x = new TrapsWatchTraps();
                for (int at = 0; at < text.length(); at += n) {
                    int some = Math.min(n, text.length() - at);
                    long v = above;
                    for (int i = 0; i < some; i++) v = v << 8 | text.charAt(at + i);
                    Due.due("write(" + some + ", " + v + ")", x.write(some, v), at + some);
                }
                Due.due("fault() by " + n, x.fault(), NONE);
                Due.due("wood() by " + n, x.wood(), 21);
                Due.due("the CELL of the first", x.trap(0, 0), 7);
                Due.due("the CELL of the second", x.trap(1, 0), 11);
                Due.due("what the second sets off", x.trap(1, 3), 1);
                Due.due("where the WALKER is", x.walker(0, 0), 11);
                Due.due("closed CELLS", x.count(7), 1 << 5);
            }
        }
        // Bytes from 128 on are bytes as others are: one sign each, and no wood.
        TrapsWatchTraps x = new TrapsWatchTraps();
        Due.due("write(8, -1)", x.write(8, -1L), 8);
        Due.due("fault()", x.fault(), 0);
        x.wipe();
        Due.due("write(2, F and byte 255)", x.write(2, 0x46ff), 2);
        Due.due("fault()", x.fault(), 1);
        x.wipe();
        Due.due("write(2, F and byte 0)", x.write(2, 0x4600), 2);
        Due.due("fault()", x.fault(), 1);
    }

    private static void writeOutside() {
        Sentence.of("Promise 2", "OUTSIDE;");
        for (int n : new int[] {0, -1, 9, 10, 64, 65, -8, NONE, 257, Integer.MIN_VALUE, Integer.MAX_VALUE}) {
            for (Twins.Run state : new Twins.Run[] {Twins.NEW, Twins.SMALL, Twins.FULL_TEXT, Twins.BUSY}) {
                Twins.refused("write(" + n + ")", state, x -> x.write(n, 0x3131313131313131L), OUTSIDE);
            }
        }
    }

    private static void writeFull() {
        Sentence.of("Promise 2", "FULL: it would be longer than 64 (nothing comes).");
        for (int length = 56; length <= 64; length++) {
            for (int n = 1; n <= 8; n++) {
                int bytes = length;
                int more = n;
                Twins.Run before = x -> Due.tell(x, Twins.BYTES_64.substring(0, bytes));
                String name = "write(" + n + ") behind " + length;
                if (length + n > 64) {
                    Twins.refused(name, before, x -> x.write(more, 0x2121212121212121L), FULL);
                } else {
                    TrapsWatchTraps x = new TrapsWatchTraps();
                    before.on(x);
                    Due.due(name, x.write(more, 0), length + n);
                    Due.due("bytes", x.count(0), length + n);
                }
            }
        }
        for (int n = 1; n <= 8; n++) {
            int more = n;
            Twins.refused("write(" + n + ") behind 64 of a wood", Twins.FULL_TEXT, x -> x.write(more, 0), FULL);
        }
        // What is refused for its length does not bar what fits.
        TrapsWatchTraps x = new TrapsWatchTraps();
        Due.tell(x, Twins.BYTES_64.substring(0, 61));
        Due.due("write(4) of 3", x.write(4, 0x21573230), FULL);
        Due.due("write(3) of 3", x.write(3, 0x573230), 64);
        Due.due("fault()", x.fault(), NONE);
    }

    private static void text64() {
        Sentence.of("Terms", "THE TEXT is bytes (64 at most).");
        TrapsWatchTraps x = new TrapsWatchTraps();
        for (int i = 0; i < 64; i++) Due.due("write(1)", x.write(1, Twins.BYTES_64.charAt(i)), i + 1);
        Due.due("count(0)", x.count(0), 64);
        Due.due("fault() of 64", x.fault(), NONE);
        Due.due("wood() of 64", x.wood(), 60);
        Due.due("by its last bytes", x.trap(2, 3), 1);
        fault(Twins.BYTES_64.substring(0, 63) + "2", 63);
        fault(Twins.BYTES_64.substring(0, 63) + "!", 63);
        fault("!" + Twins.BYTES_64.substring(1), 0);
    }

    private static void wipe() {
        Sentence.of("Promise 3", "THE TEXT is empty: how long it was.");
        for (int length : new int[] {0, 1, 8, 63, 64}) {
            TrapsWatchTraps x = new TrapsWatchTraps();
            Due.tell(x, Twins.BYTES_64.substring(0, length));
            Due.due("wipe() of " + length, x.wipe(), length);
            Due.due("wipe() of none", x.wipe(), 0);
            Due.due("bytes", x.count(0), 0);
            Due.due("fault()", x.fault(), 0);
            Due.due("wood()", x.wood(), STATE);
            // No byte of the old text is left behind the new one's.
            Due.due("write", x.write(1, 'F'), 1);
            Due.due("fault() of F", x.fault(), NONE);
            Due.due("wood() of F", x.wood(), 0);
        }
        Twins.noChange("wipe() of a text told anew", Twins.BUSY, x -> {
            Due.due("wipe()", x.wipe(), 12);
            Due.tell(x, "FT0713X05G00");
        });
    }

    private static void signs() {
        Sentence.of("Terms", "A WOOD is a TEXT: F, then PARTS, none or more:");
        fault("F", NONE);
        fork("", "F");
        fork("F", "TXG");
        fork("FX05", "TXG");
        fork("FT0500T0600", "TWXG");
        fault("FF", 1);
        fault("FX05F", 4);
        fault("FX05FX06", 4);
        fault("FT0000T0100X02G030W01X04G05-T0611W20", NONE);
        fault("FG000X01T0204T0313W01", NONE);
    }

    private static void sixTraps() {
        Sentence.of("Terms", "Tccsk a TRAP (6 at most, ");
        fault("FT0000T0100T0200T0300T0400", NONE);
        fault(SIX, NONE);
        fault(SIX + "T", 31);
        fault(SIX + "T0600", 31);
        fork(SIX, "WXG");
        fork(SIX + "W01G000X06", "WXG");
    }

    private static void trapNumbers() {
        Sentence.of("Terms", "numbered as they are told)");
        TrapsWatchTraps x = Due.woodOf("FT1100G000T0310X05T0702T0013W30T0904T0511");
        int[][] want = {{11, 0, 0}, {3, 1, 0}, {7, 0, 2}, {0, 1, 3}, {9, 0, 4}, {5, 1, 1}};
        for (int t = 0; t < 6; t++) {
            for (int what = 0; what < 3; what++) Due.due("trap(" + t + ", " + what + ")", x.trap(t, what), want[t][what]);
        }
        Due.due("what 3 sets off", x.trap(3, 3), 1);
    }

    private static void cellFigures() {
        Sentence.of("Terms", "on CELL cc (two figures 00 to 11;");
        for (char part : new char[] {'T', 'X', 'G'}) {
            String end = part == 'T' ? "00" : part == 'G' ? "0" : "";
            for (int cell = 0; cell < 100; cell++) {
                fault("F" + part + cc(cell) + end, cell <= 11 ? NONE : cell <= 19 ? 3 : 2);
            }
            fork("F" + part, "01");
            fork("F" + part + "0", "0123456789");
            fork("F" + part + "1", "01");
        }
    }

    private static void trapCells() {
        Sentence.of("Terms", "no two on one),");
        for (int cell = 0; cell < 12; cell++) {
            for (int other = 0; other < 12; other++) {
                fault("FT" + cc(cell) + "00T" + cc(other) + "11", cell == other ? 8 : NONE);
            }
        }
        // With both of 10 and 11 taken, a 1 can not be made good by what comes behind it.
        fork("FT1000T1100T", "0");
        fork("FT1000T", "01");
        fork("FT1000T1", "1");
        fork("FT1100T1", "0");
        fork("FT0000T0", "123456789");
        fault("FT1000T1100T1000", 12);
    }

    private static void trapSides() {
        Sentence.of("Terms", "set by SIDE s,");
        fork("FT05", "01");
        fault("FT05-0", 4);
        fault("FT0520", 4);
    }

    private static void trapKinds() {
        Sentence.of("Terms", "of KIND k (0 to 4)");
        for (int kind = 0; kind <= 9; kind++) fault("FT050" + kind, kind <= 4 ? NONE : 5);
        fork("FT050", "01234");
        fork("FT111", "01234");
    }

    private static void wires() {
        Sentence.of("Terms", "Wij TRAP i sets off TRAP j (unlike,");
        for (int i = 0; i < 6; i++) {
            for (int j = 0; j < 6; j++) fault(SIX + "W" + i + j, i == j ? 33 : NONE);
        }
        Sentence.of("Terms", "told ahead;");
        fault("FW01T0000T0100", 1);
        fault("FT0000W01T0100", 6);
        fault("FT0000T0100W02T0200", 13);
        fault("FT0000T0100W20T0200", 12);
        fault("FT0000T0100T0200W20W02", NONE);
        fork("FT0000T0100W", "01");
        fork("FT0000T0100W1", "0");
        fork(SIX + "W", "012345");
        fork(SIX + "W3", "01245");
        Sentence.of("Terms", "none twice)");
        fault("FT0000T0100W01W01", 15);
        fault("FT0000T0100W01W10", NONE);
        fault("FT0000T0100T0200W01W02W01", 23);
        fault("FT0000T0100T0200W01W21W12W20W02W10", NONE);
        fork("FT0000T0100T0200W01W0", "2");
        fork("FT0000T0100T0200W01W02W", "12");
        // All that can be told were told: no wire more can even be begun, until there is a trap more.
        fork("FT0000T0100W01W10", "TXG");
        fork("FT0000T0100W01W10T0200", "TWXG");
        fork("FT0000T0100W01W10T0200W", "012");
        fork("FT0000T0100W01W10T0200W0", "2");
        // One wire alone is left, each in turn: it can be told, by its own figures and no others.
        String[] wires = {"W01", "W02", "W10", "W12", "W20", "W21"};
        for (String left : wires) {
            String told = "FT0000T0100T0200" + String.join("", wires).replace(left, "");
            fork(told, "TWXG");
            fork(told + "W", left.substring(1, 2));
            fork(told + left.substring(0, 2), left.substring(2));
            fork(told + left, "TXG");
        }
    }

    private static void closedOnce() {
        Sentence.of("Terms", "Xcc a CELL that nobody can step on (told once at most,");
        for (int cell = 0; cell < 12; cell++) {
            for (int other = 0; other < 12; other++) {
                boolean isAgain = cell == other;
                fault("FX" + cc(cell) + "X" + cc(other), isAgain ? 6 : NONE);
            }
        }
        fork("FX10X11X", "0");
        fork(LOW_CLOSED + "X", "1");
        fork(LOW_CLOSED + "X10X1", "1");
        // The last one of all may be cell 0: a 0 can still be made good.
        fork("FX01X02X03X04X05X06X07X08X09X", "01");
        fork("FX01X02X03X04X05X06X07X08X09X10X11X", "0");
        fork("FX01X02X03X04X05X06X07X08X09X0", "0");
        fork("FX00X01X02X03X04X05X06X07X08X", "01");
        fork(LOW_CLOSED + "X10X11", "T");
        fault(LOW_CLOSED + "X10X11", NONE);
        fault(LOW_CLOSED + "X10X11T0000", NONE);
    }

    private static void closedUnderWalkers() {
        Sentence.of("Terms", "none of a WALKER told ahead;");
        for (int cell = 0; cell < 12; cell++) {
            for (char side : new char[] {'0', '1', '-'}) {
                fault("FG" + cc(cell) + side + "X" + cc(cell), 7);
                fault("FG" + cc(cell) + side + "X" + cc((cell + 1) % 12), NONE);
            }
        }
        fork("FG100G11-X", "0");
        fork("FG100X11X", "0");
        fork("FG000X0", "123456789");
        // Every cell is closed or has a walker: none can be closed more, walkers can be told.
        fork(LOW_CLOSED + "X10G110", "TG");
        fork(LOW_CLOSED + "G100G111", "TG");
        fork(LOW_CLOSED + "X10", "TXG");
    }

    private static void closedUnderTraps() {
        Sentence.of("Terms", "a TRAP may be there)");
        for (int cell = 0; cell < 12; cell++) {
            fault("FX" + cc(cell) + "T" + cc(cell) + "00", NONE);
            fault("FT" + cc(cell) + "00X" + cc(cell), NONE);
        }
        TrapsWatchTraps x = Due.woodOf("FT0500X05G040");
        Due.due("its CELL", x.trap(0, 0), 5);
        Due.due("closed", x.count(7), 1 << 5);
        Due.due("step", x.step(0, 5), STATE);
    }

    private static void fourWalkers() {
        Sentence.of("Terms", "Gccs a WALKER (4 at most, likewise)");
        fault("FG000G010G020", NONE);
        fault("FG000G010G020G030", NONE);
        fault("FG000G010G020G030G", 17);
        fault("FG000G010G020G030G040", 17);
        fork("FG000G010G020G030", "TX");
        fork(SIX + "G000G00-G001G000", "WX");
        // Likewise: numbered as they are told, on cells by two figures; nothing bars two on one.
        TrapsWatchTraps x = Due.woodOf("FG111X05G00-T0000G030G001");
        int[][] want = {{11, 1}, {0, NONE}, {3, 0}, {0, 1}};
        for (int w = 0; w < 4; w++) {
            Due.due("where " + w + " is", x.walker(w, 0), want[w][0]);
            Due.due("the SIDE of " + w, x.walker(w, 1), want[w][1]);
        }
        fault("FG000G000G000G000", NONE);
    }

    private static void walkerCells() {
        Sentence.of("Terms", "on CELL cc (not one that nobody can step on, told ahead of it),");
        for (int cell = 0; cell < 12; cell++) {
            fault("FX" + cc(cell) + "G" + cc(cell) + "0", 6);
            fault("FX" + cc(cell) + "G" + cc((cell + 11) % 12) + "0", NONE);
        }
        fork("FX10X11G", "0");
        fork(LOW_CLOSED + "G", "1");
        fork(LOW_CLOSED + "X10G1", "1");
        fork("FX01X02X03X04X05X06X07X08X09X10X11G", "0");
        fork("FX01X02X03X04X05X06X07X08X09X10X11G0", "0");
        fork(LOW_CLOSED + "X10X11", "T");
    }

    private static void walkerSides() {
        Sentence.of("Terms", "of SIDE s, or - (a BEAST)");
        fork("FG05", "01-");
        fork("FG11", "01-");
        Due.due("0", Due.woodOf("FG050").walker(0, 1), 0);
        Due.due("1", Due.woodOf("FG051").walker(0, 1), 1);
        Due.due("-", Due.woodOf("FG05-").walker(0, 1), NONE);
    }

    private static void faultIsFirst() {
        Sentence.of("Promise 4", "FAULT; NONE.");
        Sentence.of("Terms", "FAULT: the place of the first byte by which THE TEXT can be no WOOD, whatever came behind it");
        String wood = "FT0000T0110W01X05G060";
        String[] tails = {"", "F", "T0200", "!", "X06X06", wood, "\0\0"};
        for (int at = 0; at < wood.length(); at++) {
            for (String tail : tails) {
                fault(wood.substring(0, at) + "!" + tail, at);
                fault(wood.substring(0, at) + "!" + wood.substring(at + 1), at);
            }
        }
        // Two faults: the first; mended, the second.
        fault("FX12X13", 3);
        fault("FX11X13", 6);
        fault("XX12", 0);
        Twins.neverAChange("fault()", x -> x.fault());
    }

    private static void faultBeyondLength() {
        Sentence.of("Terms", "(its length set aside);");
        String wood61 = Twins.BYTES_64.substring(0, 61);
        String wood63 = SIX + "W01W02W03W04W05W10W12W13G060G070";
        fault(wood61, NONE);
        fault(wood63, NONE);
        Due.due("how long they are", wood61.length() * 100 + wood63.length(), 6163);
        // What is begun here would end behind the 64th byte, and is no fault ahead of the end.
        fault(wood61 + "G", 62);
        fault(wood61 + "G1", 63);
        fault(wood61 + "G11", 64);
        fault(wood63 + "G", 64);
        fault(wood63 + "X", 64);
        fault(wood63 + "W", 64);
        fault(wood61 + "W2", 63);
        fault(wood61 + "G12", 63);
        fault(wood63 + "T", 63);
    }

    private static void faultAtEnd() {
        Sentence.of("Terms", "its length, if it is only not at its end;");
        String[] parts = {"FT0713", "FX11", "FG10-", "FT0000T0100W01", "FT0000T0100X05G060"};
        for (String text : parts) {
            TrapsWatchTraps x = new TrapsWatchTraps();
            boolean[] isEnd = new boolean[text.length() + 1];
            int end = 1;
            while (end < text.length()) {
                isEnd[end] = true;
                end += text.charAt(end) == 'T' ? 5 : text.charAt(end) == 'G' ? 4 : 3;
            }
            isEnd[end] = true;
            Due.due("no byte", x.fault(), 0);
            for (int length = 1; length <= text.length(); length++) {
                x.write(1, text.charAt(length - 1));
                Due.due("fault() of " + text.substring(0, length), x.fault(), isEnd[length] ? NONE : length);
            }
        }
        fault("", 0);
    }

    private static void faultNone() {
        Sentence.of("Terms", "NONE: none.");
        fault("F", NONE);
        fault(Twins.BYTES_64, NONE);
        fault("FT1114", NONE);
        fault("FX00", NONE);
        fault("FG11-", NONE);
        Sentence.of("Terms", "NONE is -9.");
        Due.due("NONE", TrapsWatchTraps.NONE, -9);
        Due.due("fault() of F", Due.faultOf("F"), -9);
    }

    private static void woodBeginsAnew() {
        Sentence.of("Promise 5", "THE TEXT is THE WOOD (no FROST, THE ROW of ACTS is empty, what was kept is gone; "
                + "THE SEED stays):");
        String[] texts = {"F", "FT0713X05G001", Twins.BYTES_64, "FT0502T0614T0100T1103T0812T0304W01W12X09G040G061G00-G101",
            "FT0001T0101T0201T0301T0601T0501G070G10-", "FT0003T0103T0203T0303T0603T0503G070G10-",
            "FT0000T0100T0200T0300T0600T0500G070G10-"};
        for (String text : texts) {
            Twins.same("wood() of " + text + " in a busy one", x -> {
                Twins.BUSY.on(x);
                Due.tell(x, text);
                Due.dueTrue("wood()", x.wood() >= 0);
            }, x -> {
                x.seed(77);
                Due.tell(x, text);
                Due.dueTrue("wood()", x.wood() >= 0);
            });
        }
        // The same wood once more, behind acts that woke, sprang, caught and found.
        Twins.Run told = x -> {
            Due.tell(x, "FT0502T0614T0102G040G061G00-");
            Due.due("wood()", x.wood(), 33);
        };
        Twins.same("wood() behind acts", x -> {
            told.on(x);
            x.step(0, 5);
            x.step(1, 7);
            x.step(1, 6);
            x.look(0, 6);
            x.step(2, 1);
            Due.due("wood() once more", x.wood(), 33);
        }, told);
        TrapsWatchTraps x = new TrapsWatchTraps();
        Twins.BUSY.on(x);
        x.write(1, '1');
        Due.due("wood()", x.wood(), 11);
        Due.due("no FROST", x.count(9), 0);
        Due.due("no ACTS", x.count(8), 0);
        Due.due("undo()", x.undo(), STATE);
        Due.due("again(0)", x.again(0), STATE);
        Due.due("again(1)", x.again(1), STATE);
        Due.due("THE SEED", x.seed(0), 77);
        // The text stays, and can be the wood once more.
        Due.due("bytes", x.count(0), 13);
        x.step(0, 1);
        Due.due("wood() once more", x.wood(), 11);
        Due.due("where it was told", x.walker(0, 0), 0);
    }

    private static void woodTells() {
        Sentence.of("Promise 5", "10 times TRAPS, and WALKERS.");
        String[] traps = {"", "T0000", "T0100", "T0200", "T0300", "T0400", "T0500"};
        String told = "F";
        for (int t = 0; t <= 6; t++) {
            told += traps[t];
            String with = told;
            for (int w = 0; w <= 4; w++) {
                TrapsWatchTraps x = new TrapsWatchTraps();
                Due.tell(x, with);
                Due.due("wood() of " + with, x.wood(), 10 * t + w);
                with += "G00-";
            }
        }
        Sentence.of("Terms", "All TRAPS are ARMED, each SIDE KNOWS its own.");
        TrapsWatchTraps x = Due.woodOf("FT0000T0111T0202T0313T0404T0510");
        Due.due("ARMED", x.count(3), 63);
        Due.due("POACHERS KNOW", x.count(5), Due.bits(0, 2, 4));
        Due.due("KEEPERS KNOW", x.count(6), Due.bits(1, 3, 5));
        for (int t = 0; t < 6; t++) {
            Due.due("ARMED: " + t, x.trap(t, 4), 1);
            Due.due("not woken: " + t, x.trap(t, 5), 0);
            Due.due("KNOWN: " + t, x.trap(t, 6), t % 2 == 0 ? 1 : 2);
        }
    }

    private static void woodRefused() {
        Sentence.of("Promise 5", "STATE: a FAULT.");
        Twins.refused("wood() of no bytes", Twins.NEW, x -> x.wood(), STATE);
        Twins.refused("wood() of what is not at its end", Twins.BUSY, x -> x.wood(), STATE);
        for (String text : new String[] {"", "X", "F!", "FT0713X05G05", "FX05G061X", "FT0000T0000", SIX + "T0600"}) {
            Twins.refused("wood() of " + text, x -> {
                Twins.BUSY.on(x);
                Due.tell(x, text);
            }, x -> x.wood(), STATE);
        }
    }
}
