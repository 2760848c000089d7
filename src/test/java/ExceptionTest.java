/** Promises 8, 9 and 10: exceptions, what they push and undo, halting, tracing, waiting, interrupts. */
public final class ExceptionTest {
    private static final Checks CHECKS = new Checks();
    private static final int USER_SR = 0x0513;

    private ExceptionTest() {
    }

    public static void main(String[] args) {
        plainExceptions();
        undoneExceptions();
        addressErrors();
        firstErrorCounts();
        frameOverVector();
        halting();
        tracing();
        waiting();
        interrupts();
        CHECKS.end();
    }

    /** A board in user mode with stacks at 0xD00 (user) and 0xE00 (supervisor). */
    private static BoardCore user(int... words) {
        BoardCore b = Board.with(words);
        b.put(18, 0xD00);
        b.put(19, 0xE00);
        b.put(17, USER_SR);
        return b;
    }

    private static void frame(String what, BoardCore b, int n, int pc, int sr) {
        CHECKS.same(what + ": its number", b.exceptions(n), 1);
        CHECKS.same(what + ": that alone", b.exceptions(0), 1);
        CHECKS.same(what + ": PC", b.register(16), Board.vector(n));
        CHECKS.same(what + ": SR", b.register(17), sr & 0x071F | 0x2000);
        CHECKS.same(what + ": PC pushed", b.read(0xDFC, 4), pc);
        CHECKS.same(what + ": SR pushed", b.read(0xDFA, 2), sr);
        CHECKS.same(what + ": A7", b.register(15), n == 3 ? 0xDF2 : 0xDFA);
        CHECKS.same(what + ": the user's A7", b.register(18), 0xD00);
        CHECKS.same(what + ": state", b.state(), 0);
    }

    private static void plainExceptions() {
        for (int v = 0; v < 16; v++) {
            BoardCore b = user(0x4E40 | v);
            b.step(1);
            frame("trap " + v, b, 32 + v, 0x402, USER_SR);
        }
        BoardCore over = user(0x4E76);
        over.step(1);
        frame("V is 1", over, 7, 0x402, USER_SR);
        BoardCore not = user(0x4E76);
        not.put(17, USER_SR & ~Board.V);
        not.step(1);
        CHECKS.same("V is 0: nothing", not.exceptions(0), 0);
        CHECKS.same("V is 0: PC", not.register(16), 0x402);
        BoardCore zero = user(0x80FC, 0x0000);
        zero.step(1);
        frame("by 0", zero, 5, 0x404, USER_SR & ~Board.C);
        BoardCore signed = user(0x81D9);
        signed.put(9, 0xC00);
        signed.step(1);
        frame("by 0 with signs", signed, 5, 0x402, USER_SR & ~Board.C);
        CHECKS.same("what it did counts", signed.register(9), 0xC02);
        BoardCore chk = user(0x41A9, 0x0010);
        chk.put(9, 0xC00);
        chk.put(0, 0x8000);
        chk.step(1);
        frame("out of bounds", chk, 6, 0x404, USER_SR | Board.N);
    }

    private static void undoneExceptions() {
        int[][] words = {
            {4, 0x4AFC}, {4, 0x4E74}, {4, 0x0E00}, {4, 0x1008}, {4, 0x71FF}, {4, 0x46C8}, {4, 0x46FD},
            {8, 0x007C}, {8, 0x027C}, {8, 0x0A7C}, {8, 0x46C0}, {8, 0x46D9}, {8, 0x46E1}, {8, 0x4E60}, {8, 0x4E6F},
            {8, 0x4E70}, {8, 0x4E72}, {8, 0x4E73}, {10, 0xA000}, {10, 0xAFFF}, {11, 0xF000}, {11, 0xFFFF},
        };
        for (int[] w : words) {
            for (int t = 0; t <= Board.T; t += Board.T) {
                BoardCore b = user(w[1], 0x2700);
                b.put(9, 0xC00);
                b.put(17, USER_SR | t);
                CHECKS.same("one step", b.step(1), 1);
                String what = "word " + Integer.toHexString(w[1]);
                frame(what, b, w[0], 0x400, USER_SR | t);
                CHECKS.same(what + ": A1", b.register(9), 0xC00);
            }
        }
        BoardCore s = Board.with(0x4E70, 0x4E71);
        CHECKS.same("nothing, twice", s.step(2), 2);
        CHECKS.same("PC", s.register(16), 0x404);
        CHECKS.same("no exception", s.exceptions(0), 0);
    }

    private static void addressError(int address, int... words) {
        BoardCore b = user(words);
        for (int k = 0; k < 8; k++) {
            b.put(k, 0x1010 * k);
        }
        for (int k = 8; k < 14; k++) {
            b.put(k, 0x12345600 + 0x100 * k);
        }
        b.put(8, 0xC00);
        b.put(9, 0x12345A41);
        int sum = b.sum();
        int[] before = Board.seen(b);
        CHECKS.same("one step", b.step(1), 1);
        String what = "odd address by " + Integer.toHexString(words[0]);
        frame(what, b, 3, 0x400, USER_SR);
        for (int k = 0; k < 15; k++) {
            CHECKS.same(what + ": register " + k, b.register(k), before[k]);
        }
        CHECKS.same(what + ": word pushed", b.read(0xDF8, 2), words[0]);
        CHECKS.same(what + ": address pushed", b.read(0xDF4, 4), address);
        CHECKS.same(what + ": 0 pushed", b.read(0xDF2, 2), 0);
        for (int a = 0xDF2; a < 0xE00; a++) {
            b.write(a, 0, 1);
        }
        CHECKS.same(what + ": memory", b.sum(), sum);
    }

    private static void addressErrors() {
        int a1 = 0x12345A41;
        addressError(a1, 0x3011);
        addressError(a1, 0x2011);
        addressError(a1, 0x3019);
        addressError(a1 - 2, 0x3021);
        addressError(a1 - 4, 0x2021);
        addressError(a1 + 0x7FFE, 0x3029, 0x7FFE);
        addressError(0x12345A41 + 0x1010 + 2, 0x2031, 0x1002);
        addressError(0xFFFF8001, 0x3038, 0x8001);
        addressError(0x87654321, 0x3039, 0x8765, 0x4321);
        addressError(0x405, 0x303A, 0x0003);
        addressError(a1, 0x3280);
        addressError(a1 - 4, 0x2300);
        addressError(a1 - 4, 0x2318);
        addressError(a1, 0x32D8);
        addressError(a1, 0x4251);
        addressError(a1, 0x4659);
        addressError(a1, 0x0051, 0x1234);
        addressError(a1, 0x5259);
        addressError(a1, 0x40D1);
        addressError(a1, 0x44D9);
        addressError(a1, 0xD2D9);
        addressError(a1, 0xB3D9);
        addressError(a1, 0x80D9);
        addressError(a1, 0xC1D1);
        addressError(a1, 0x4191);
        addressError(a1, 0xE0D9);
        addressError(a1 - 2, 0x9149);
        addressError(a1 - 4, 0xD388);
        addressError(a1, 0xB149);
        addressError(a1, 0xB388);
        addressError(a1, 0x48D1, 0xFFFF);
        addressError(a1 - 4, 0x48E1, 0xFFFF);
        addressError(a1 - 2, 0x48A1, 0x0001);
        addressError(a1, 0x4CD9, 0xFFFF);
        addressError(a1, 0x4C91, 0x0003);
        addressError(a1, 0x4E59);
        oddStack();
        oddPc();
        bytesAreFine();
    }

    private static void oddStack() {
        int[][] words = {{0x6110, -4}, {0x4E91, -4}, {0x4850, -4}, {0x4E50, -4}, {0x4E75, 0}, {0x4E77, 0}, {0x4E5F, 0}};
        for (int[] w : words) {
            BoardCore b = user(w[0], 0x0010);
            b.put(18, 0xD01);
            b.put(8, 0xC00);
            b.step(1);
            CHECKS.same("odd stack: exception 3", b.exceptions(3), 1);
            CHECKS.same("odd stack: address", b.read(0xDF4, 4), 0xD01 + w[1]);
            CHECKS.same("odd stack: A7 stays", b.register(18), 0xD01);
            CHECKS.same("odd stack: A0 stays", b.register(8), 0xC00);
            CHECKS.same("odd stack: PC pushed", b.read(0xDFC, 4), 0x400);
        }
    }

    private static void oddPc() {
        BoardCore b = user(0x4E71);
        b.put(16, 0x12345401);
        b.step(1);
        frame("odd PC", b, 3, 0x12345401, USER_SR);
        CHECKS.same("odd PC: no word", b.read(0xDF8, 2), 0);
        CHECKS.same("odd PC: address", b.read(0xDF4, 4), 0x12345401);
        CHECKS.same("odd PC: 0", b.read(0xDF2, 2), 0);
        BoardCore t = user(0x4E71);
        t.put(16, 0x401);
        t.put(17, USER_SR | Board.T);
        t.step(1);
        frame("odd PC with T", t, 3, 0x401, USER_SR | Board.T);
        BoardCore v = user(0x4E40);
        v.write(4 * 32, 0x601, 4);
        v.step(2);
        CHECKS.same("odd long at 4 n: error of the next one", v.exceptions(3), 1);
        CHECKS.same("that of exception 32", v.exceptions(32), 1);
        CHECKS.same("its PC pushed", v.read(0xDF6, 4), 0x601);
    }

    private static void bytesAreFine() {
        BoardCore b = user(0x1011, 0x4AD1, 0x0109, 0x0000, 0x50D1, 0xD300);
        b.put(9, 0xC01);
        CHECKS.same("bytes at odd addresses", b.step(5), 5);
        CHECKS.same("no exception", b.exceptions(0), 0);
    }

    private static void firstErrorCounts() {
        // Both addresses are odd: that of the source counts.
        BoardCore b = user(0x3290);
        b.put(8, 0xC01);
        b.put(9, 0xC03);
        b.step(1);
        CHECKS.same("the source's address", b.read(0xDF4, 4), 0xC01);
        // A word that cannot be read is no divisor 0.
        BoardCore d = user(0x80D0);
        d.put(8, 0xC01);
        d.step(1);
        CHECKS.same("exception 3 and not 5", d.exceptions(3), 1);
        CHECKS.same("that alone", d.exceptions(0), 1);
        // Not permitted before any operand is read.
        BoardCore s = user(0x46D0);
        s.put(8, 0xC01);
        s.step(1);
        CHECKS.same("exception 8 and not 3", s.exceptions(8), 1);
    }

    private static void frameOverVector() {
        BoardCore b = user(0x4E40);
        b.put(19, 4 * 32 + 6);
        b.step(1);
        CHECKS.same("the long at 4 n is read behind the pushes", b.register(16), USER_SR << 16);
        BoardCore e = user(0x3010);
        e.put(8, 1);
        e.put(19, 12 + 14);
        e.step(1);
        CHECKS.same("also with exception 3", e.register(16), 0x0000_0000);
        CHECKS.same("0 and the address lie there", e.read(12, 4), 0x0000_0000);
    }

    private static void halted(String what, BoardCore b, int pc, int sr) {
        CHECKS.same(what + ": that counts as a step", b.step(5), 1);
        CHECKS.same(what + ": state", b.state(), 2);
        CHECKS.same(what + ": not counted", b.exceptions(0), 0);
        CHECKS.same(what + ": PC stays", b.register(16), pc);
        CHECKS.same(what + ": S and T", b.register(17), sr & 0x071F | 0x2000);
        CHECKS.same(what + ": A7", b.register(15), 0xE01);
        CHECKS.same(what + ": no more steps", b.step(5), 0);
        b.want(7);
        CHECKS.same(what + ": no interrupts", b.step(5), 0);
    }

    private static BoardCore oddSupervisor(int sr, int... words) {
        BoardCore b = user(words);
        b.put(19, 0xE01);
        b.put(17, sr);
        b.put(9, 0xC00);
        return b;
    }

    private static void halting() {
        for (int s = 0; s <= Board.S; s += Board.S) {
            for (int t = 0; t <= Board.T; t += Board.T) {
                int sr = USER_SR | s | t;
                halted("trap", oddSupervisor(sr, 0x4E40), 0x402, sr);
                halted("illegal", oddSupervisor(sr, 0x4AFC), 0x400, sr);
                halted("line 10", oddSupervisor(sr, 0xA000), 0x400, sr);
                halted("odd address", oddSupervisor(sr, 0x3039, 0x0000, 0x0C01), 0x400, sr);
                BoardCore pc = oddSupervisor(sr, 0x4E71);
                pc.put(16, 0x403);
                halted("odd PC", pc, 0x403, sr);
                BoardCore zero = oddSupervisor(sr, 0x80D9);
                halted("by 0", zero, 0x402, sr & ~Board.C);
                CHECKS.same("what it did counts", zero.register(9), 0xC02);
                BoardCore i = oddSupervisor(sr, 0x4E71);
                i.want(6);
                halted("interrupt", i, 0x400, sr);
            }
        }
        halted("not permitted", oddSupervisor(USER_SR, 0x4E70), 0x400, USER_SR);
        halted("trace", oddSupervisor(USER_SR | Board.T, 0x4E71), 0x402, USER_SR);
        BoardCore stop = oddSupervisor(0xA500, 0x4E72, 0x2301);
        halted("trace of one that would wait", stop, 0x404, 0x2301);
        BoardCore push = oddSupervisor(0x2500, 0x6110);
        halted("push at an odd A7", push, 0x400, 0x2500);
        int sum = push.sum();
        push.reset();
        CHECKS.same("reset: goes on", push.state(), 0);
        CHECKS.same("nothing was pushed", push.sum(), sum);
        CHECKS.same("reset: steps again", push.step(1), 1);
    }

    private static void traceFrame(String what, BoardCore b, int a7, int pc, int sr) {
        CHECKS.same(what + ": exception 9", b.exceptions(9), 1);
        CHECKS.same(what + ": PC", b.register(16), Board.vector(9));
        CHECKS.same(what + ": SR", b.register(17), sr & 0x071F | 0x2000);
        CHECKS.same(what + ": A7", b.register(15), a7);
        CHECKS.same(what + ": SR pushed", b.read(a7, 2), sr);
        CHECKS.same(what + ": PC pushed", b.read(a7 + 2, 4), pc);
        CHECKS.same(what + ": goes on", b.state(), 0);
    }

    private static void tracing() {
        BoardCore b = user(0x7000);
        b.put(17, USER_SR | Board.T);
        CHECKS.same("in the same step", b.step(1), 1);
        traceFrame("traced", b, 0xDFA, 0x402, 0x8514);
        BoardCore trap = user(0x4E42);
        trap.put(17, USER_SR | Board.T);
        trap.step(1);
        traceFrame("behind an exception of its own", trap, 0xDF4, Board.vector(34), 0x2513);
        CHECKS.same("that exception", trap.exceptions(34), 1);
        CHECKS.same("SR pushed by it", trap.read(0xDFA, 2), USER_SR | Board.T);
        CHECKS.same("both", trap.exceptions(0), 2);
        BoardCore stop = Board.with(0x4E72, 0x0413);
        stop.put(17, 0xA000);
        stop.step(1);
        traceFrame("one that would wait", stop, 0x3FA, 0x404, 0x0413);
        BoardCore begins = Board.with(0x46FC, 0xA000, 0x4E71);
        begins.step(1);
        CHECKS.same("T that it sets itself", begins.exceptions(0), 0);
        begins.step(1);
        traceFrame("counts for the next one", begins, 0x3FA, 0x406, 0xA000);
        BoardCore ends = Board.with(0x46FC, 0x2000, 0x4E71);
        ends.put(17, 0xA000);
        ends.step(1);
        traceFrame("T that it takes away", ends, 0x3FA, 0x404, 0x2000);
        BoardCore rte = Board.with(0x4E73);
        rte.put(15, 0xC00);
        rte.put(17, 0xA700);
        rte.write(0xC02, 0x700, 4);
        rte.step(1);
        traceFrame("back to the user, traced", rte, 0xC00, 0x700, 0x0000);
        BoardCore i = user(0x4E71);
        i.put(17, USER_SR | Board.T);
        i.want(6);
        i.step(1);
        CHECKS.same("an interrupt is not traced", i.exceptions(9), 0);
        CHECKS.same("T is 0 then", i.register(17), 0x2613);
        CHECKS.same("T in the SR pushed", i.read(0xDFA, 2), USER_SR | Board.T);
    }

    private static void waiting() {
        BoardCore b = Board.with(0x4E72, 0xFFFF & ~Board.T & ~0x0400, 0x4E71);
        CHECKS.same("less", b.step(10), 1);
        CHECKS.same("waits", b.state(), 1);
        CHECKS.same("SR", b.register(17), 0x231F);
        CHECKS.same("PC behind it", b.register(16), 0x404);
        b.want(3);
        CHECKS.same("not above the mask", b.step(10), 0);
        b.put(17, 0x2200);
        CHECKS.same("above the mask now", b.step(1), 1);
        CHECKS.same("goes on", b.state(), 0);
        CHECKS.same("exception 27", b.exceptions(27), 1);
        CHECKS.same("PC pushed", b.read(0x3FC, 4), 0x404);
        BoardCore u = Board.with(0x4E72, 0x0000);
        u.put(18, 0xC00);
        u.step(3);
        CHECKS.same("waits as a user", u.state(), 1);
        CHECKS.same("A7 is the user's", u.register(15), 0xC00);
        u.want(1);
        CHECKS.same("interrupt, then instructions", u.step(3), 3);
        CHECKS.same("exception 25", u.exceptions(25), 1);
        CHECKS.same("two instructions behind it", u.register(16), Board.vector(25) + 8);
    }

    private static void interrupts() {
        for (int level = 1; level < 8; level++) {
            for (int mask = 0; mask < 8; mask++) {
                BoardCore b = user(0x4E71, 0x4E71);
                int sr = mask << 8 | 0x11;
                b.put(17, sr);
                b.want(level);
                CHECKS.same("a step of its own", b.step(1), 1);
                if (level > mask || level == 7) {
                    frameOfInterrupt(b, level, sr);
                    b.put(17, 0x2000);
                    b.write(b.register(16), 0x4E71, 2);
                    b.step(1);
                    CHECKS.same("wanted no longer", b.exceptions(0), 1);
                } else {
                    CHECKS.same("not above the mask", b.register(16), 0x402);
                    b.put(17, 0x2000);
                    b.step(1);
                    CHECKS.same("still wanted", b.exceptions(24 + level), 1);
                }
            }
        }
        BoardCore odd = user(0x4E71);
        odd.put(16, 0x401);
        odd.want(6);
        odd.step(1);
        CHECKS.same("before an instruction at an odd PC", odd.exceptions(30), 1);
        CHECKS.same("that PC pushed", odd.read(0xDFC, 4), 0x401);
        odd.write(Board.vector(30), 0x4E73, 2);
        odd.step(2);
        CHECKS.same("then its error", odd.exceptions(3), 1);
    }

    private static void frameOfInterrupt(BoardCore b, int level, int sr) {
        CHECKS.same("exception of the level", b.exceptions(24 + level), 1);
        CHECKS.same("PC", b.register(16), Board.vector(24 + level));
        CHECKS.same("the mask becomes the level", b.register(17), 0x2011 | level << 8);
        CHECKS.same("SR before it pushed", b.read(0xDFA, 2), sr);
        CHECKS.same("PC pushed", b.read(0xDFC, 4), 0x400);
    }
}
