/** Promises 8 to 10: the boundary cases that Terms names for exceptions and interrupts, sentence by sentence. */
public final class EdgeExceptionsTest {
    private static final Checks CHECKS = new Checks();
    private static final Edge EDGE = new Edge(CHECKS);

    private EdgeExceptionsTest() {
    }

    public static void main(String[] args) {
        exceptions();
        nothingCounts();
        addressErrorsPush();
        halted();
        haltedPcStays();
        supervisorOnly();
        traced();
        notTraced();
        wouldWait();
        tracedBehindItsOwn();
        levelsAndMasks();
        wantedNoLonger();
        maskBecomesLevel();
        waitingGoesOn();
        stepOfItsOwn();
        haltedByInterrupt();
        CHECKS.end();
    }

    private static void exceptions() {
        CHECKS.sentence("EXCEPTION n: SR as it is; S becomes 1, T 0; PC, then that SR are pushed, PC becomes the "
            + "long at 4 n.");
        EDGE.raises(32, 0x402, "4E40", "SR=0", "");
        EDGE.raises(32, 0x402, "4E40", "SR=71F", "");
        EDGE.raises(32, 0x402, "4E40", "SR=271F", "");
        EDGE.refuses(4, "4AFC", "SR=8000");
        EDGE.refuses(4, "4AFC", "SR=A71F");
        EDGE.raises(47, 2, "4E4F", "PC=0", "");
        EDGE.raises(47, 0, "4E4F", "PC=FFFFFFFE", "");
        int[] longs = {0, 1, -1, 0x7FFFFFFF, 0x80000000, 0x12345678};
        for (int v : longs) {
            BoardCore b = Board.with(0x4E40, 0x4AFC);
            b.write(4 * 32, v, 4);
            b.write(4 * 4, ~v, 4);
            b.step(1);
            CHECKS.same("the long at 128", b.register(16), v);
            b.put(16, 0x402);
            b.step(1);
            CHECKS.same("the long at 16", b.register(16), ~v);
        }
        // The user's A7 may be odd: nothing is pushed there.
        EDGE.raises(32, 0x402, "4E40", "SR=0 US=E01", "");
        EDGE.refuses(8, "4E70", "SR=0 US=E01");
    }

    private static void nothingCounts() {
        CHECKS.sentence("For 3, 4, 8, 10, 11 the PC is that of the instruction's first word, "
            + "and but for the exception nothing that it did counts, in registers and memory.");
        EDGE.faults(0xD01, "2298", "A0=C00 A1=D01 L.C00=80000000 SR=201F");
        EDGE.faults(0xD01, "22A0", "A0=C00 A1=D01 SR=2000");
        EDGE.faults(0xD01 - 2, "3318", "A0=C00 A1=D01 SR=201B");
        EDGE.faults(0xD01, "32DF", "SS=F00 A1=D01");
        EDGE.faults(0xC01, "3018", "A0=C01 SR=201F");
        EDGE.faults(0xC01 - 2, "D160", "A0=C01 SR=201F");
        EDGE.faults(0xD01 - 4, "D388", "A0=C04 A1=D01 SR=2014");
        EDGE.faults(0xD01, "B388", "A0=C04 A1=D01 SR=2014");
        EDGE.faults(0xC01, "4CD8 FFFF", "A0=C01");
        EDGE.faults(0xC01 - 4, "48E0 FFFF", "A0=C01");
        EDGE.faults(0xC01, "80D0", "A0=C01 SR=2001");
        EDGE.faults(0xC01, "81D8", "A0=C01 SR=201F");
        EDGE.faults(0xC01, "44D8", "A0=C01 SR=2015");
        EDGE.faults(0xC01, "46D8", "A0=C01 SR=2715");
        EDGE.faults(0xC01, "4198", "A0=C01 D0=FFFF SR=2007");
        EDGE.faults(0xC01, "E1D8", "A0=C01 SR=2015");
        EDGE.faults(0xC01, "4058", "A0=C01 SR=2014");
        EDGE.faults(0xC01, "4258", "A0=C01 SR=201B");
        EDGE.faults(0xE01, "4E77", "SR=15 US=E01 W.E01=FFFF");
        EDGE.faults(0xE01, "4E75", "SR=15 US=E01");
        EDGE.faults(0xC01, "4E58", "SR=15 A0=C01");
        EDGE.faults(0xE01 - 4, "4E50 0010", "SR=15 US=E01");
        EDGE.faults(0xE01 - 4, "6110", "SR=15 US=E01");
        EDGE.faults(0xE01 - 4, "4EB8 0600", "SR=15 US=E01");
        EDGE.faults(0xC01, "33F9 0000 0C01 0000 0C11", "");
        EDGE.faults(0xC11, "33F9 0000 0C00 0000 0C11", "");
        EDGE.refuses(8, "46DF", "SR=15");
        EDGE.refuses(8, "46E0", "SR=15");
        EDGE.refuses(8, "46F9 0000 0C00", "SR=15");
        EDGE.refuses(4, "46FD 0000", "SR=15 PC=500");
        EDGE.refuses(4, "4AFC 1234", "PC=500");
        EDGE.refuses(10, "A123 1234", "PC=500");
        EDGE.refuses(11, "F123 1234", "PC=500");
        EDGE.refuses(8, "4E72 2700", "PC=500 SR=0");
    }

    private static void addressErrorsPush() {
        CHECKS.sentence("With exception 3 besides the instruction's word (0 when it could not be taken), "
            + "the odd address as it was reckoned, as a long, and a word 0 are pushed behind.");
        EDGE.faults(0x12345601, "3010", "A0=12345601");
        EDGE.faults(0xFFFFFFFF, "3028 FFFF", "A0=0");
        EDGE.faults(0xFFFFFFFF, "3020", "A0=1");
        EDGE.faults(0xFFFF8001, "3038 8001", "");
        EDGE.faults(0x80000001, "3028 0002", "A0=7FFFFFFF");
        EDGE.faults(1, "3028 0002", "A0=FFFFFFFF");
        EDGE.faults(0xFFFFFFFD, "2020", "A0=1");
        EDGE.faults(0x401, "303A FFFF", "");
        EDGE.faults(0x2D01, "3030 1801", "A0=C00 D1=2100");
        EDGE.faults(0x401, "4E71", "PC=401");
        EDGE.faults(0xFFFFFFFF, "4E71", "PC=FFFFFFFF SR=71F");
        // The pushes go round below 0, too.
        EDGE.faults(0xC01, "3010", "A0=C01 SS=8");
        EDGE.faults(0xC01, "3010", "A0=C01 SS=0");
        EDGE.faults(0xC01, "3010", "A0=C01 SS=80000000");
    }

    private static void halted() {
        CHECKS.sentence("If A7 is odd (with S 1), the machine is HALTED instead: nothing is pushed and counted");
        int[] modes = {0, 0x2000, 0x8000, 0xA000};
        for (int mode : modes) {
            String before = "SS=F01 SR=" + Integer.toHexString(mode | 0x0315);
            EDGE.halts(0x402, "4E40", before, "");
            EDGE.halts(0x402, "4E4F", before, "");
            EDGE.halts(0x400, "4AFC", before, "");
            EDGE.halts(0x400, "A000", before, "");
            EDGE.halts(0x400, "F000", before, "");
            EDGE.halts(0x400, "3010", before + " A0=C01", "");
            EDGE.halts(0x400, "3018", before + " A0=C01", "");
            EDGE.halts(0x401, "4E71", before + " PC=401", "");
            EDGE.halts(0x402, "80C1", before + " D1=0", "SR=" + Integer.toHexString(mode | 0x0314));
            EDGE.halts(0x402, "81D8", before, "A0=C02 SR=" + Integer.toHexString(mode | 0x0314));
            EDGE.halts(0x402, "4181", before + " D0=FFFF", "SR=" + Integer.toHexString(mode | 0x031D));
            EDGE.haltsByInterrupt(4, "4E71", before);
            EDGE.haltsByInterrupt(7, "4AFC", before);
        }
        EDGE.halts(0x402, "4E76", "SS=F01 SR=2002", "");
        EDGE.halts(0x400, "4E70", "SS=F01 SR=0", "");
        EDGE.halts(0x400, "4E73", "SS=F01 SR=2000", "");
        EDGE.halts(0x400, "4E75", "SS=F01 SR=2000", "");
        EDGE.halts(0x400, "4850", "SS=F01 SR=2000", "");
        EDGE.halts(0x402, "4E40", "SS=FFFFFFFF", "");
        EDGE.halts(0x402, "4E40", "SS=1", "");
        // An odd A7 halts nothing without an exception.
        EDGE.does("4E71", "SS=F01", "");
        EDGE.does("4E71", "SS=F01 SR=0", "");
        EDGE.does("101F", "SS=F01 B.F01=7F", "D0=0D00D07F SS=F03");
        EDGE.does("6110", "SS=F01 SR=0", "PC=412 L.DFC=402 US=DFC");
        EDGE.raises(32, 0x402, "4E40", "US=E01 SR=2000", "");
    }

    private static void haltedPcStays() {
        CHECKS.sentence("PC stays (S and T are so all the same).");
        EDGE.halts(0x500, "4AFC", "PC=500 SS=F01 SR=871F", "");
        EDGE.halts(0x502, "4E40", "PC=500 SS=F01 SR=871F", "");
        EDGE.halts(0x504, "80FC 0000", "PC=500 SS=F01 SR=8700", "");
        EDGE.halts(0x502, "4E71", "PC=500 SS=F01 SR=871F", "");
        EDGE.halts(0x502, "524F", "PC=500 SS=F00 SR=A71F", "SS=F01");
        EDGE.halts(0x504, "4E72 0715", "PC=500 SS=F01 SR=A000", "SR=0715");
        EDGE.halts(0x600, "4ED0", "A0=600 SS=F01 SR=8000", "");
        EDGE.halts(0x600, "4E75", "SR=8000 SS=F01 L.E00=600", "US=E04");
        CHECKS.same("no interrupt is done then", after(7), 0);
        CHECKS.same("halted still", EDGE.board().state(), 2);
    }

    private static int after(int level) {
        EDGE.board().want(level);
        return EDGE.board().step(5);
    }

    private static void supervisorOnly() {
        CHECKS.sentence("Where S only is told and S is 0: exception 8.");
        String[] codes = {
            "007C 0000", "027C FFFF", "0A7C 0000", "46C0", "46D0", "46D8", "46E0", "46FC 2000", "46FA 0000",
            "4E60", "4E67", "4E68", "4E6F", "4E70", "4E72 2000", "4E73",
        };
        for (String code : codes) {
            EDGE.refuses(8, code, "SR=0");
            EDGE.refuses(8, code, "SR=71F");
            EDGE.refuses(8, code, "SR=8000");
        }
        String[] forAll = {"003C 0000", "023C FFFF", "0A3C 0000", "4E71", "4E76", "44FC 0000"};
        for (String code : forAll) {
            EDGE.does(code, "SR=0", "");
        }
        EDGE.does("40C0", "SR=0", "D0=0D000000");
    }

    private static void traced() {
        CHECKS.sentence("An instruction that began with T 1, and ended otherwise than with these five, "
            + "is followed by exception 9");
        EDGE.traces("4E71", "SR=8000", "");
        EDGE.traces("4E71", "SR=A71F", "");
        EDGE.traces("7000", "SR=871B", "D0=0 SR=8714");
        EDGE.traces("4ED0", "SR=8000 A0=601", "PC=601");
        EDGE.traces("6110", "SR=8000", "PC=412 L.DFC=402 US=DFC");
        EDGE.traces("4E73", "SR=A000 W.F00=15 L.F02=600", "SR=15 PC=600 SS=F06");
        EDGE.traces("46FC 2700", "SR=A000", "SR=2700");
        EDGE.traces("46FC 0700", "SR=A000", "SR=700");
        EDGE.traces("027C 7FFF", "SR=A715", "SR=2715");
        EDGE.traces("4E76", "SR=8000", "");
        EDGE.traces("80C1", "SR=8000 D0=6 D1=3", "D0=2");
        EDGE.traces("4181", "SR=8000 D0=3 D1=3", "");
        // T that comes with the instruction itself counts from the next one on.
        EDGE.does("46FC A700", "SR=2000", "SR=A700");
        EDGE.does("007C 8000", "SR=2000", "SR=A000");
        EDGE.does("4E73", "SR=2000 W.F00=8000 L.F02=600", "SR=8000 PC=600 SS=F06");
        BoardCore b = Board.with(0x007C, 0x8000, 0x4E71);
        b.step(2);
        CHECKS.same("the next one", b.exceptions(9), 1);
        CHECKS.same("the next one's PC", b.read(0x3FC, 4), 0x406);
    }

    private static void notTraced() {
        CHECKS.sentence("and ended otherwise than with these five");
        EDGE.faults(0xC01, "3010", "A0=C01 SR=8000");
        EDGE.faults(0x401, "4E71", "PC=401 SR=A000");
        EDGE.refuses(4, "4AFC", "SR=8000");
        EDGE.refuses(4, "4AFC", "SR=A000");
        EDGE.refuses(8, "4E70", "SR=8000");
        EDGE.refuses(8, "4E72 A700", "SR=8000");
        EDGE.refuses(10, "A000", "SR=A000");
        EDGE.refuses(11, "FFFF", "SR=8000");
        CHECKS.same("no exception 9", EDGE.board().exceptions(9), 0);
    }

    private static void wouldWait() {
        CHECKS.sentence("(also one with which it would wait: it does not then");
        EDGE.traces("4E72 2700", "SR=A000", "SR=2700");
        CHECKS.same("goes on", EDGE.board().state(), 0);
        EDGE.board().write(Board.vector(9), 0x4E71, 2);
        CHECKS.same("a step", EDGE.board().step(1), 1);
        EDGE.traces("4E72 A71F", "SR=A000", "SR=A71F");
        CHECKS.same("goes on with T", EDGE.board().state(), 0);
        EDGE.traces("4E72 0000", "SR=A000", "SR=0");
        CHECKS.same("goes on as a user", EDGE.board().state(), 0);
        // T that the instruction itself brings does not keep it from waiting.
        EDGE.does("4E72 A700", "SR=2000", "SR=A700");
        CHECKS.same("waits", EDGE.board().state(), 1);
        CHECKS.same("no step", EDGE.board().step(3), 0);
    }

    private static void tracedBehindItsOwn() {
        CHECKS.sentence("behind an exception of its own, with SR and PC as that left them), in the same step.");
        EDGE.raisesAndTraces(32, 0x402, "4E40", "SR=8000", "");
        EDGE.raisesAndTraces(47, 0x402, "4E4F", "SR=A71F", "");
        EDGE.raisesAndTraces(7, 0x402, "4E76", "SR=8002", "");
        EDGE.raisesAndTraces(5, 0x402, "80C1", "SR=801F D1=0", "SR=801E");
        EDGE.raisesAndTraces(5, 0x404, "81FC 0000", "SR=A000", "");
        EDGE.raisesAndTraces(6, 0x402, "4181", "SR=8000 D0=FFFF", "SR=8008");
        EDGE.raisesAndTraces(6, 0x402, "4198", "SR=8008 D0=6 W.C00=5", "SR=8000 A0=C02");
        BoardCore b = EDGE.board();
        CHECKS.same("two exceptions", b.exceptions(0), 2);
        CHECKS.same("SR that exception 6 left", b.read(b.register(15), 2), 0x2000);
        CHECKS.same("PC that exception 6 left", b.read(b.register(15) + 2, 4), Board.vector(6));
    }

    private static void levelsAndMasks() {
        CHECKS.sentence("INTERRUPTS: before an instruction, if the level that is wanted is above the mask, or 7");
        for (int level = 1; level < 8; level++) {
            for (int mask = 0; mask < 8; mask++) {
                String sr = " SR=" + Integer.toHexString(mask << 8 | 0x15);
                if (level > mask || level == 7) {
                    EDGE.interrupts(level, "4E71", sr);
                    EDGE.interrupts(level, "4AFC", " SR=" + Integer.toHexString(0xA000 | mask << 8));
                    EDGE.interrupts(level, "4E71", sr + " PC=401");
                } else {
                    BoardCore b = Board.with(0x4E71, 0x4E71);
                    b.put(17, 0x2000 | mask << 8);
                    b.want(level);
                    CHECKS.same("steps", b.step(2), 2);
                    CHECKS.same("level " + level + " with mask " + mask, b.exceptions(0), 0);
                    CHECKS.same("two instructions", b.register(16), 0x404);
                    b.put(17, 0x2000);
                    b.step(1);
                    CHECKS.same("still wanted", b.exceptions(24 + level), 1);
                }
            }
        }
        BoardCore lowers = Board.with(0x46FC, 0x2200, 0x4E71);
        lowers.put(17, 0x2300);
        lowers.want(3);
        lowers.step(1);
        CHECKS.same("not before the mask is lower", lowers.register(16), 0x404);
        lowers.step(1);
        CHECKS.same("before the next instruction", lowers.exceptions(27), 1);
        CHECKS.same("its PC pushed", lowers.read(0x3FC, 4), 0x404);
        CHECKS.same("SR pushed", lowers.read(0x3FA, 2), 0x2200);
    }

    private static void wantedNoLonger() {
        CHECKS.sentence("it is wanted no longer");
        for (int level = 1; level < 8; level++) {
            BoardCore b = Board.with(0x4E71);
            b.write(Board.vector(24 + level), 0x4E71, 2);
            b.want(level);
            b.step(1);
            b.put(17, 0x2000);
            b.step(1);
            CHECKS.same("one of level " + level, b.exceptions(0), 1);
            CHECKS.same("an instruction behind it", b.register(16), Board.vector(24 + level) + 2);
            b.want(level);
            b.step(1);
            CHECKS.same("wanted once more", b.exceptions(24 + level), 2);
        }
        BoardCore seven = Board.with(0x4E71);
        seven.put(17, 0x2700);
        for (int i = 1; i < 4; i++) {
            seven.want(7);
            seven.step(1);
            CHECKS.same("7 with the mask 7, each time", seven.exceptions(31), i);
        }
    }

    private static void maskBecomesLevel() {
        CHECKS.sentence("the exception 24 and the level is done (SR before it pushed), the mask becomes the level");
        for (int level = 1; level < 8; level++) {
            EDGE.interrupts(level, "4E71", "SR=801F");
            EDGE.interrupts(level, "4E71", "SR=2000");
            EDGE.interrupts(level, "4E71", "SR=0 US=E01");
        }
        EDGE.interrupts(7, "4E71", "SR=8700");
        BoardCore b = Board.with(0x4E71);
        b.want(3);
        b.step(1);
        b.write(b.register(16), 0x4E71, 2);
        b.want(3);
        b.step(1);
        CHECKS.same("the same level waits for its end", b.exceptions(27), 1);
        b.want(4);
        b.step(1);
        CHECKS.same("a higher one does not", b.exceptions(28), 1);
    }

    private static void waitingGoesOn() {
        CHECKS.sentence("a machine that waits goes on.");
        for (int level = 1; level < 8; level++) {
            for (int mask = 0; mask < 8; mask++) {
                BoardCore b = Board.with(0x4E72, 0x2000 | mask << 8);
                b.step(1);
                b.want(level);
                boolean goes = level > mask || level == 7;
                CHECKS.same("steps", b.step(1), goes ? 1 : 0);
                CHECKS.same("state", b.state(), goes ? 0 : 1);
                CHECKS.same("exceptions", b.exceptions(24 + level), goes ? 1 : 0);
                CHECKS.same("PC", goes ? b.read(0x3FC, 4) : b.register(16), 0x404);
            }
        }
        BoardCore back = Board.with(0x4E72, 0x0000, 0x7005, 0x60FE);
        back.put(18, 0xE00);
        back.write(Board.vector(25), 0x4E73, 2);
        back.step(1);
        back.want(1);
        CHECKS.same("interrupt, back, and what is behind", back.step(4), 4);
        CHECKS.same("what is behind", back.register(0), 5);
        CHECKS.same("SR", back.register(17), 0);
        BoardCore none = Board.with(0x4E72, 0x2000);
        none.step(1);
        none.want(7);
        none.want(0);
        CHECKS.same("none is wanted: waits", none.step(1), 0);
    }

    private static void stepOfItsOwn() {
        CHECKS.sentence("That is a step of its own.");
        BoardCore b = Board.with(0x5280);
        b.write(Board.vector(30), 0x5280, 2);
        b.want(6);
        CHECKS.same("one", b.step(1), 1);
        CHECKS.same("no instruction yet", b.register(0), 0);
        CHECKS.same("at the interrupt's", b.register(16), Board.vector(30));
        CHECKS.same("another one", b.step(1), 1);
        CHECKS.same("then the instruction", b.register(0), 1);
        BoardCore t = Board.with(0x5280);
        t.put(17, 0xA000);
        t.want(6);
        t.step(1);
        CHECKS.same("it is no instruction that began with T 1", t.exceptions(9), 0);
        CHECKS.same("T is pushed", t.read(0x3FA, 2), 0xA000);
        // Exception 9 belongs to the step of its instruction, the interrupt comes behind it.
        BoardCore both = Board.with(0x46FC, 0xA000);
        both.put(17, 0xA700);
        both.want(2);
        CHECKS.same("one step", both.step(1), 1);
        CHECKS.same("exception 9 first", both.exceptions(9), 1);
        CHECKS.same("no interrupt yet", both.exceptions(26), 0);
        both.step(1);
        CHECKS.same("then the interrupt", both.exceptions(26), 1);
        CHECKS.same("with exception 9's PC", both.read(0x3F6, 4), Board.vector(9));
    }

    private static void haltedByInterrupt() {
        CHECKS.sentence("(If it is halted by that, the mask stays.)");
        for (int level = 4; level < 8; level++) {
            EDGE.haltsByInterrupt(level, "4E71", "SS=F01 SR=0315");
            EDGE.haltsByInterrupt(level, "4E71", "SS=F01 SR=8300");
            EDGE.haltsByInterrupt(level, "4E71", "SS=F01 SR=A31F");
        }
        BoardCore w = Board.with(0x4E72, 0x2315);
        w.step(1);
        w.put(19, 0x301);
        w.want(5);
        CHECKS.same("one that waits: a step", w.step(3), 1);
        CHECKS.same("halted", w.state(), 2);
        CHECKS.same("the mask", w.register(17), 0x2315);
        CHECKS.same("PC", w.register(16), 0x404);
        CHECKS.same("not counted", w.exceptions(0), 0);
    }
}
