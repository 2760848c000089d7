/** Promise 8: the ways to tell operands, where they lie and what becomes of Ay and PC. */
public final class OperandTest {
    private static final Checks CHECKS = new Checks();

    private OperandTest() {
    }

    public static void main(String[] args) {
        registersOnly();
        plainAddresses();
        upAndDown();
        indexes();
        absolute();
        pcRelative();
        immediate();
        orders();
        wordsBeforeWrites();
        roundMemory();
        addressZero();
        wordOperands();
        CHECKS.end();
    }

    /** Loads the effective address of an operand by 0100 1011 11ee eeee (to A5). */
    private static int addressOf(BoardCore b) {
        CHECKS.same("step", b.step(1), 1);
        CHECKS.same("no exception", b.exceptions(0), 0);
        return b.register(13);
    }

    private static void registersOnly() {
        BoardCore b = Board.with(0x1001, 0x3001, 0x2001, 0x3009, 0x2009, 0x3041, 0x2041);
        b.put(0, 0x11111111);
        b.put(1, 0x8899AABB);
        b.put(9, 0x1234CDEF);
        b.step(1);
        CHECKS.same("byte of D1", b.register(0), 0x111111BB);
        b.step(1);
        CHECKS.same("word of D1", b.register(0), 0x1111AABB);
        b.step(1);
        CHECKS.same("long of D1", b.register(0), 0x8899AABB);
        b.step(1);
        CHECKS.same("word of A1", b.register(0), 0x8899CDEF);
        b.step(1);
        CHECKS.same("long of A1", b.register(0), 0x1234CDEF);
        b.put(17, 0x201F);
        b.step(1);
        CHECKS.same("word to A0, extended", b.register(8), 0xFFFFAABB);
        CHECKS.same("without flags", Board.flags(b), 0x1F);
        b.step(1);
        CHECKS.same("long to A0", b.register(8), 0x8899AABB);
    }

    private static void plainAddresses() {
        BoardCore b = Board.with(0x4BD1, 0x4BE9, 0x7FFF, 0x4BE9, 0x8000);
        b.put(9, 0x12345678);
        CHECKS.same("at A1", addressOf(b), 0x12345678);
        CHECKS.same("A1 and a word", addressOf(b), 0x12345678 + 0x7FFF);
        CHECKS.same("A1 and a word below 0", addressOf(b), 0x12345678 - 0x8000);
    }

    private static void upAndDown() {
        int[][] moves = {{0x1000, 1}, {0x3000, 2}, {0x2000, 4}};
        for (int[] m : moves) {
            for (int y = 0; y < 8; y++) {
                int by = m[1] == 1 && y == 7 ? 2 : m[1];
                BoardCore b = Board.with(m[0] | 0x18 | y, m[0] | 0x20 | y, m[0] | 0xC0 | y << 9, m[0] | 0x100 | y << 9);
                b.put(8 + y, 0xC00);
                b.write(0xC00, 0x91A2B3C4, 4);
                int part = 0x91A2B3C4 >>> 32 - 8 * m[1];
                b.step(1);
                CHECKS.same("up reads", b.register(0), part);
                CHECKS.same("up of A" + y, b.register(8 + y), 0xC00 + by);
                b.put(0, 0);
                b.step(1);
                CHECKS.same("down reads", b.register(0), part);
                CHECKS.same("down of A" + y, b.register(8 + y), 0xC00);
                b.put(0, 0x55667788);
                b.step(1);
                CHECKS.same("up writes", b.read(0xC00, m[1]), 0x55667788 & (int) ((1L << 8 * m[1]) - 1));
                CHECKS.same("up writes no more", b.read(0xC00 + m[1], 1), m[1] == 4 ? 0 : 0x91A2B3C4 >>> 24 - 8 * m[1] & 255);
                CHECKS.same("up behind a write", b.register(8 + y), 0xC00 + by);
                b.put(0, 0x01020304);
                b.step(1);
                CHECKS.same("down writes", b.read(0xC00, m[1]), 0x01020304 & (int) ((1L << 8 * m[1]) - 1));
                CHECKS.same("down before a write", b.register(8 + y), 0xC00);
            }
        }
    }

    private static void indexes() {
        for (int k = 0; k < 16; k++) {
            if (k == 9) {
                continue;
            }
            for (int junk = 0; junk <= 0x700; junk += 0x100) {
                BoardCore b = Board.with(0x4BF1, k << 12 | 0x800 | junk | 0x7F, 0x4BF1, k << 12 | junk | 0x80);
                b.put(9, 0x10000);
                b.put(k, 0x12348766);
                CHECKS.same("long index " + k, addressOf(b), 0x10000 + 0x12348766 + 0x7F);
                b.put(k, 0x12348766);
                CHECKS.same("word index " + k, addressOf(b), 0x10000 + (short) 0x8766 - 0x80);
            }
        }
        BoardCore odd = Board.with(0x4BF1, 0x2001);
        odd.put(9, 0x500);
        odd.put(2, 0x12340010);
        CHECKS.same("word index, odd number", addressOf(odd), 0x511);
        BoardCore user = Board.with(0x4BF1, 0xF800);
        user.put(Board.USP, 0x222);
        user.put(Board.SR, 0);
        user.put(9, 0x100);
        CHECKS.same("index A7 is that of S", addressOf(user), 0x322);
    }

    private static void absolute() {
        BoardCore b = Board.with(0x4BF8, 0x8001, 0x4BF8, 0x7FFE, 0x4BF9, 0x8765, 0x4321);
        CHECKS.same("a word, extended", addressOf(b), 0xFFFF8001);
        CHECKS.same("a word", addressOf(b), 0x7FFE);
        CHECKS.same("a long", addressOf(b), 0x87654321);
        CHECKS.same("PC", b.register(16), 0x40E);
    }

    private static void pcRelative() {
        BoardCore b = Board.with(0x4BFA, 0x0010, 0x4BFA, 0xFFF0, 0x4BFB, 0x0810, 0x4BFB, 0x10F0);
        b.put(0, 0x00018000);
        b.put(1, 0x0001FFFE);
        CHECKS.same("PC and a word", addressOf(b), 0x402 + 0x10);
        CHECKS.same("PC less a word", addressOf(b), 0x406 - 0x10);
        CHECKS.same("PC and a long index", addressOf(b), 0x40A + 0x18000 + 0x10);
        CHECKS.same("PC and a word index", addressOf(b), 0x40E - 2 - 0x10);
        // The bit's number is taken first, so that the address counts from the second word.
        BoardCore c = Board.with(0x083A, 0x0003, 0x0020);
        c.write(0x404 + 0x20, 8, 1);
        c.step(1);
        CHECKS.same("behind a bit's number", Board.flags(c), 0);
        BoardCore d = Board.with(0x4CFA, 0x0001, 0x0020);
        d.write(0x404 + 0x20, 0x13579BDF, 4);
        d.step(1);
        CHECKS.same("behind a list", d.register(0), 0x13579BDF);
    }

    private static void immediate() {
        BoardCore b = Board.with(0x103C, 0xAA81, 0x303C, 0x8123, 0x203C, 0x8765, 0x4321);
        b.step(1);
        CHECKS.same("byte in the low half", b.register(0), 0x81);
        CHECKS.same("N of a byte", Board.flags(b), Board.N);
        b.step(1);
        CHECKS.same("word", b.register(0), 0x8123);
        b.step(1);
        CHECKS.same("long of two", b.register(0), 0x87654321);
        CHECKS.same("PC", b.register(16), 0x40E);
        BoardCore t = Board.with(0x013C, 0xFF04, 0x013C, 0x00FB);
        t.put(0, 10);
        t.step(1);
        CHECKS.same("a bit of a byte behind", Board.flags(t), 0);
        t.step(1);
        CHECKS.same("a bit of a byte behind that is 0", Board.flags(t), Board.Z);
    }

    private static void orders() {
        BoardCore b = Board.with(0x22D9, 0x3318, 0x2089, 0x2309, 0x22C9, 0x2049, 0x2059, 0xD2D9, 0xD3D9);
        b.put(9, 0xC00);
        b.write(0xC00, 0x11112222, 4);
        b.step(1);
        CHECKS.same("(A1)+ to (A1)+", b.read(0xC04, 4), 0x11112222);
        CHECKS.same("A1 twice up", b.register(9), 0xC08);
        b.put(8, 0xC00);
        b.put(9, 0xC02);
        b.step(1);
        CHECKS.same("(A0)+ to -(A1)", b.read(0xC00, 2), 0x1111);
        CHECKS.same("A0 up", b.register(8), 0xC02);
        b.put(8, 0xC10);
        b.put(9, 0xC20);
        b.step(1);
        CHECKS.same("A1 to (A0)", b.read(0xC10, 4), 0xC20);
        b.step(1);
        CHECKS.same("A1 to -(A1) as it was", b.read(0xC1C, 4), 0xC20);
        CHECKS.same("A1 down", b.register(9), 0xC1C);
        b.step(1);
        CHECKS.same("A1 to (A1)+ as it was", b.read(0xC1C, 4), 0xC1C);
        b.step(1);
        CHECKS.same("A1 to A0", b.register(8), 0xC20);
        b.write(0xC20, 0x600, 4);
        b.put(9, 0xC20);
        b.step(1);
        CHECKS.same("(A1)+ to A0", b.register(8), 0x600);
        b.write(0xC24, 0x0006, 2);
        b.step(1);
        CHECKS.same("A1 and (A1)+, that has gone up", b.register(9), 0xC26 + 6);
        b.write(0xC2C, 0x10, 4);
        b.step(1);
        CHECKS.same("A1 and long (A1)+", b.register(9), 0xC30 + 0x10);
        // -(A1) to 4(A1): the destination's address is reckoned with A1 gone down.
        BoardCore c = Board.with(0x3361, 0x0004);
        c.put(9, 0xC02);
        c.write(0xC00, 0x7777, 2);
        c.step(1);
        CHECKS.same("-(A1) to 4(A1)", c.read(0xC04, 2), 0x7777);
        // Words of the source first, then those of the destination.
        BoardCore d = Board.with(0x23F9, 0x0000, 0x0C00, 0x0000, 0x0C80);
        d.write(0xC00, 0x12345678, 4);
        d.step(1);
        CHECKS.same("source before destination", d.read(0xC80, 4), 0x12345678);
        BoardCore e = Board.with(0x337C, 0x5A5A, 0x0010);
        e.put(9, 0xC00);
        e.step(1);
        CHECKS.same("immediate before destination", e.read(0xC10, 2), 0x5A5A);
        BoardCore f = Board.with(0x06B9, 0x0000, 0x0005, 0x0000, 0x0C00);
        f.write(0xC00, 7, 4);
        f.step(1);
        CHECKS.same("source in front of an address", f.read(0xC00, 4), 12);
        CHECKS.same("PC", f.register(16), 0x40A);
    }

    private static void wordsBeforeWrites() {
        BoardCore link = Board.with(0x4E55, 0xFFF8);
        link.put(15, 0x406);
        link.put(13, 0x12345678);
        link.step(1);
        CHECKS.same("link", link.register(15), 0x402 - 8);
        BoardCore bsr = Board.with(0x6100, 0x0100);
        bsr.put(15, 0x406);
        bsr.step(1);
        CHECKS.same("branch with push", bsr.register(16), 0x402 + 0x100);
        CHECKS.same("pushed over the word", bsr.read(0x402, 4), 0x404);
        BoardCore pea = Board.with(0x4879, 0x0000, 0x0ABC);
        pea.put(15, 0x406);
        pea.step(1);
        CHECKS.same("push of an address", pea.read(0x402, 4), 0xABC);
        BoardCore jsr = Board.with(0x4EB9, 0x0000, 0x0ABC);
        jsr.put(15, 0x406);
        jsr.step(1);
        CHECKS.same("jump with push", jsr.register(16), 0xABC);
        CHECKS.same("pushed", jsr.read(0x402, 4), 0x406);
        BoardCore many = Board.with(0x48F8, 0x0003, 0x0402);
        many.put(0, -1);
        many.put(1, -1);
        many.step(1);
        CHECKS.same("many", many.read(0x402, 4) & many.read(0x406, 4), -1);
        CHECKS.same("PC behind many", many.register(16), 0x406);
    }

    private static void roundMemory() {
        BoardCore b = Board.with(0x2039, 0x0000, 0x0FFE, 0x2039, 0xFFFF, 0xFFFE, 0x23C0, 0x1234, 0x5FFE);
        b.write(0xFFE, 0x1122, 2);
        b.write(0, 0x3344, 2);
        b.step(1);
        CHECKS.same("long round the end", b.register(0), 0x11223344);
        b.put(0, 0);
        b.step(1);
        CHECKS.same("address modulo 4096", b.register(0), 0x11223344);
        b.put(0, 0x55667788);
        b.step(1);
        CHECKS.same("written round the end", b.read(0xFFE, 4), 0x55667788);
        BoardCore p = new BoardCore();
        p.write(0xFFE, 0x303C, 2);
        p.write(0, 0x4242, 2);
        p.put(16, 0x7FFFFFFE);
        p.step(1);
        CHECKS.same("instruction round the end", p.register(0), 0x4242);
        CHECKS.same("PC is a long", p.register(16), 0x80000002);
    }

    private static void addressZero() {
        BoardCore b = Board.with(0x2038, 0x0000, 0x21C1, 0x0000);
        b.write(0, 0x13572468, 4);
        b.put(1, 0x55AA55AA);
        b.step(1);
        CHECKS.same("read at address 0", b.register(0), 0x13572468);
        b.step(1);
        CHECKS.same("written at address 0", b.read(0, 4), 0x55AA55AA);
        CHECKS.same("and no register", b.register(0), 0x13572468);
    }

    /** Instructions whose operand is always a word: Ay goes up by 2, one word is taken. */
    private static void wordOperands() {
        int[] words = {0xC0C0, 0xC1C0, 0x80C0, 0x81C0, 0x4180, 0x44C0, 0x46C0, 0x90C0, 0xB0C0, 0xD0C0, 0x40C0, 0xE0C0};
        for (int i = 0; i < words.length; i++) {
            BoardCore b = Board.with(words[i] | 0x19);
            b.put(9, 0xC00);
            b.write(0xC00, 0x2001, 2);
            b.step(1);
            CHECKS.same("up by a word, " + Integer.toHexString(words[i]), b.register(9), 0xC02);
            CHECKS.same("no exception", b.exceptions(0), 0);
            if (i < 10) {
                BoardCore c = Board.with(words[i] | 0x3C, 0x2001);
                c.step(1);
                CHECKS.same("one word behind " + Integer.toHexString(words[i]), c.register(16), 0x404);
                CHECKS.same("no exception", c.exceptions(0), 0);
            }
        }
    }
}
