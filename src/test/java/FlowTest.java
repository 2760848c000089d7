/** Promise 8: branches, jumps, the stack, the two modes. */
public final class FlowTest {
    private static final Checks CHECKS = new Checks();

    private FlowTest() {
    }

    public static void main(String[] args) {
        branches();
        calls();
        jumps();
        returns();
        links();
        userStack();
        CHECKS.end();
    }

    private static int pcAfter(BoardCore b) {
        CHECKS.same("one step", b.step(1), 1);
        CHECKS.same("no exception", b.exceptions(0), 0);
        return b.register(16);
    }

    private static void branches() {
        for (int d = 1; d < 256; d++) {
            CHECKS.same("short branch", pcAfter(Board.with(0x6000 | d)), 0x402 + (byte) d);
        }
        CHECKS.same("branch by a word", pcAfter(Board.with(0x6000, 0x7FFE)), 0x402 + 0x7FFE);
        CHECKS.same("branch back by a word", pcAfter(Board.with(0x6000, 0x8000)), 0x402 - 0x8000);
        BoardCore not = Board.with(0x6700, 0x0100, 0x6710);
        CHECKS.same("no branch, over the word", pcAfter(not), 0x404);
        CHECKS.same("no branch", pcAfter(not), 0x406);
    }

    private static void calls() {
        BoardCore b = Board.with(0x6110);
        CHECKS.same("short call", pcAfter(b), 0x412);
        CHECKS.same("pushed", b.read(0x3FC, 4), 0x402);
        CHECKS.same("A7", b.register(15), 0x3FC);
        BoardCore w = Board.with(0x6100, 0xFF00);
        CHECKS.same("call by a word", pcAfter(w), 0x302);
        CHECKS.same("pushed behind all of it", w.read(0x3FC, 4), 0x404);
        BoardCore flags = Board.with(0x6110);
        flags.put(17, 0x201F);
        pcAfter(flags);
        CHECKS.same("no flags", flags.register(17), 0x201F);
    }

    private static void jumps() {
        BoardCore b = Board.with(0x4EE9, 0x0010);
        b.put(9, 0x12345678);
        CHECKS.same("jump", pcAfter(b), 0x12345688);
        CHECKS.same("nothing pushed", b.register(15), 0x400);
        BoardCore s = Board.with(0x4EBA, 0x0010);
        CHECKS.same("jump with push", pcAfter(s), 0x412);
        CHECKS.same("pushed", s.read(0x3FC, 4), 0x404);
        BoardCore odd = Board.with(0x4ED1);
        odd.put(9, 0x501);
        CHECKS.same("jump to an odd address", pcAfter(odd), 0x501);
        odd.step(1);
        CHECKS.same("is an error of the next instruction", odd.exceptions(3), 1);
        BoardCore a7 = Board.with(0x4E97);
        a7.put(15, 0xC00);
        CHECKS.same("jump to A7 as it was", pcAfter(a7), 0xC00);
        CHECKS.same("pushed below", a7.read(0xBFC, 4), 0x402);
        BoardCore pea = Board.with(0x4857, 0x4870, 0x9804);
        pea.put(15, 0xC00);
        pea.put(17, 0x201F);
        pcAfter(pea);
        CHECKS.same("address of A7 as it was", pea.read(0xBFC, 4), 0xC00);
        pea.put(9, 0x10);
        pea.put(8, 0x100000);
        pcAfter(pea);
        CHECKS.same("address pushed", pea.read(0xBF8, 4), 0x100014);
        CHECKS.same("no flags", pea.register(17), 0x201F);
    }

    private static void returns() {
        BoardCore rts = Board.with(0x4E75);
        rts.put(15, 0xC00);
        rts.write(0xC00, 0x87654320, 4);
        CHECKS.same("PC popped", pcAfter(rts), 0x87654320);
        CHECKS.same("A7", rts.register(15), 0xC04);
        BoardCore rtr = Board.with(0x4E77);
        rtr.put(15, 0xC00);
        rtr.put(17, 0x2510);
        rtr.write(0xC00, 0xFFEA, 2);
        rtr.write(0xC02, 0x00000642, 4);
        CHECKS.same("PC popped behind CCR", pcAfter(rtr), 0x642);
        CHECKS.same("CCR popped", rtr.register(17), 0x250A);
        CHECKS.same("A7 by 6", rtr.register(15), 0xC06);
        BoardCore rte = Board.with(0x4E73);
        rte.put(15, 0xC00);
        rte.put(18, 0xD00);
        rte.write(0xC00, 0x5715, 2);
        rte.write(0xC02, 0x00000642, 4);
        CHECKS.same("PC popped behind SR", pcAfter(rte), 0x642);
        CHECKS.same("SR popped", rte.register(17), 0x0715);
        CHECKS.same("the supervisor's A7 by 6", rte.register(19), 0xC06);
        CHECKS.same("the user's A7 stays", rte.register(15), 0xD00);
    }

    private static void links() {
        BoardCore b = Board.with(0x4E56, 0x0010, 0x4E5E, 0x4E57, 0xFFF0, 0x4E5F);
        b.put(14, 0x11223344);
        b.put(17, 0x201F);
        pcAfter(b);
        CHECKS.same("pushed", b.read(0x3FC, 4), 0x11223344);
        CHECKS.same("Ay becomes A7", b.register(14), 0x3FC);
        CHECKS.same("A7 grows", b.register(15), 0x40C);
        pcAfter(b);
        CHECKS.same("Ay is popped", b.register(14), 0x11223344);
        CHECKS.same("A7 back", b.register(15), 0x400);
        CHECKS.same("A7 with itself", pcAfter(b), 0x40A);
        CHECKS.same("A7 as it was is pushed", b.read(0x3FC, 4), 0x400);
        CHECKS.same("A7 less 4, then more", b.register(15), 0x3FC - 0x10);
        b.write(0x3EC, 0x0ABC, 4);
        pcAfter(b);
        CHECKS.same("A7 is what was popped", b.register(15), 0x0ABC);
        CHECKS.same("no flags", b.register(17), 0x201F);
    }

    private static void userStack() {
        BoardCore b = Board.with(0x4E61, 0x4E6A, 0x4E6F, 0x4E67);
        b.put(9, 0x777);
        pcAfter(b);
        CHECKS.same("A1 to the user's A7", b.register(18), 0x777);
        pcAfter(b);
        CHECKS.same("back to A2", b.register(10), 0x777);
        pcAfter(b);
        CHECKS.same("back to A7, the supervisor's", b.register(19), 0x777);
        b.put(19, 0x888);
        pcAfter(b);
        CHECKS.same("the supervisor's to the user's", b.register(18), 0x888);
        // Each mode pushes on its own stack.
        BoardCore u = Board.with(0x6100, 0x0010);
        u.put(18, 0xC00);
        u.put(17, 0);
        pcAfter(u);
        CHECKS.same("the user pushes on his stack", u.read(0xBFC, 4), 0x404);
        CHECKS.same("his A7", u.register(18), 0xBFC);
        CHECKS.same("not the supervisor's", u.register(19), 0x400);
    }
}
