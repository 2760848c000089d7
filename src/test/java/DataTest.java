/** Promise 8: bits, bytes apart, many registers, conditions and the small moves. */
public final class DataTest {
    private static final Checks CHECKS = new Checks();

    private DataTest() {
    }

    public static void main(String[] args) {
        bitsOfRegisters();
        bitsOfMemory();
        bytesApart();
        storeMany();
        loadMany();
        conditions();
        countDown();
        exchanges();
        extensions();
        quickMoves();
        status();
        check();
        CHECKS.end();
    }

    private static int bitDue(int t, int v, int one) {
        return t == 0 ? v : t == 1 ? v ^ one : t == 2 ? v & ~one : v | one;
    }

    private static void bitsOfRegisters() {
        for (int t = 0; t < 4; t++) {
            for (int number = 0; number < 70; number++) {
                for (int form = 0; form < 2; form++) {
                    int v = 0x9C63A5F0;
                    int high = form == 0 ? 0xABCDEF00 : 0;
                    BoardCore b = form == 0 ? Board.with(0x0300 | t << 6) : Board.with(0x0800 | t << 6, number | 0xFF00);
                    b.put(0, v);
                    b.put(1, number - number / 64 * 64 | high);
                    b.put(17, 0x201F);
                    b.step(1);
                    int one = 1 << number % 32;
                    CHECKS.same("bit of D0", b.register(0), bitDue(t, v, one));
                    CHECKS.same("Z alone", Board.flags(b), (v & one) == 0 ? 0x1F : 0x1B);
                    CHECKS.same("PC", b.register(16), form == 0 ? 0x402 : 0x404);
                }
            }
        }
    }

    private static void bitsOfMemory() {
        for (int t = 0; t < 4; t++) {
            for (int number = 0; number < 32; number++) {
                for (int form = 0; form < 2; form++) {
                    BoardCore b = form == 0 ? Board.with(0x0318 | t << 6) : Board.with(0x0818 | t << 6, number);
                    b.put(8, 0xC01);
                    b.put(1, number);
                    b.write(0xC00, 0xFF5AFF, 4);
                    b.write(0xC01, 0x5A, 1);
                    b.put(17, 0x2000);
                    b.step(1);
                    int one = 1 << number % 8;
                    CHECKS.same("bit of a byte", b.read(0xC01, 1), bitDue(t, 0x5A, one));
                    CHECKS.same("byte behind", b.read(0xC02, 1), 0x5A);
                    CHECKS.same("Z", Board.flags(b), (0x5A & one) == 0 ? Board.Z : 0);
                    CHECKS.same("A0 up by 1", b.register(8), 0xC02);
                }
            }
        }
    }

    private static void bytesApart() {
        BoardCore b = Board.with(0x0308, 0x0010, 0x0348, 0xFFF0, 0x0388, 0x0011, 0x03C8, 0xFFF1);
        b.put(8, 0xC00);
        b.put(1, 0x11223344);
        b.put(17, 0x201F);
        b.write(0xC10, 0xA1B2C3D4, 4);
        b.write(0xBF0, 0x01020304, 4);
        b.write(0xBF4, 0x05060708, 4);
        b.step(1);
        CHECKS.same("two to the word", b.register(1), 0x1122A1C3);
        b.step(1);
        CHECKS.same("four to the long", b.register(1), 0x01030507);
        b.put(1, 0x89ABCDEF);
        b.step(1);
        CHECKS.same("two back, at an odd address", b.read(0xC10, 4), 0xA1CDC3EF);
        b.step(1);
        CHECKS.same("four back", b.read(0xBF0, 4), 0x018903AB);
        CHECKS.same("four back, the rest", b.read(0xBF4, 4), 0x05CD07EF);
        CHECKS.same("Dr stays", b.register(1), 0x89ABCDEF);
        CHECKS.same("Ay stays", b.register(8), 0xC00);
        CHECKS.same("no flags", Board.flags(b), 0x1F);
        CHECKS.same("PC", b.register(16), 0x410);
    }

    private static BoardCore numbered(int... words) {
        BoardCore b = Board.with(words);
        for (int k = 0; k < 16; k++) {
            b.put(k, 0x80008000 + 0x00010101 * k);
        }
        b.put(17, 0x201F);
        return b;
    }

    private static int value(int k) {
        return 0x80008000 + 0x00010101 * k;
    }

    private static void storeMany() {
        BoardCore b = numbered(0x48D1, 0x8421);
        b.put(9, 0xC00);
        b.step(1);
        int[] order = {0, 5, 10, 15};
        for (int i = 0; i < 4; i++) {
            CHECKS.same("long upward " + i, b.read(0xC00 + 4 * i, 4), value(order[i]));
        }
        CHECKS.same("Ay stays", b.register(9), 0xC00);
        CHECKS.same("no flags", Board.flags(b), 0x1F);
        BoardCore w = numbered(0x48A9, 0x8421, 0x0010);
        w.put(9, 0xC00);
        w.step(1);
        for (int i = 0; i < 4; i++) {
            CHECKS.same("word upward " + i, w.read(0xC10 + 2 * i, 2), value(order[i]) & 0xFFFF);
        }
        BoardCore d = numbered(0x48E1, 0x8461);
        d.put(9, 0xC20);
        d.step(1);
        // Bits from 15 on: D0 (15), D5 (10), A1 (6), A2 (5), A7 (0).
        CHECKS.same("A7 first", d.read(0xC1C, 4), value(15));
        CHECKS.same("then A2", d.read(0xC18, 4), value(10));
        CHECKS.same("then A1 as it was before", d.read(0xC14, 4), 0xC20);
        CHECKS.same("then D5", d.read(0xC10, 4), value(5));
        CHECKS.same("then D0", d.read(0xC0C, 4), value(0));
        CHECKS.same("Ay at last what it came to", d.register(9), 0xC0C);
        BoardCore v = numbered(0x48A1, 0xFFFF);
        v.put(9, 0xC20);
        v.step(1);
        for (int k = 0; k < 16; k++) {
            CHECKS.same("word downward " + k, v.read(0xC00 + 2 * k, 2), k == 9 ? 0xC20 : value(k) & 0xFFFF);
        }
        CHECKS.same("Ay", v.register(9), 0xC00);
        BoardCore none = numbered(0x48E1, 0, 0x48D1, 0);
        none.put(9, 0xC21);
        CHECKS.same("none, at an odd address", none.step(2), 2);
        CHECKS.same("none: nothing", none.register(9), 0xC21);
        CHECKS.same("none: no exception", none.exceptions(0), 0);
    }

    private static void loadMany() {
        BoardCore b = numbered(0x4CD9, 0x8221, 0x4C99, 0x0021, 0x4CD1, 0x0300, 0x4CD9, 0);
        b.put(9, 0xC00);
        for (int i = 0; i < 8; i++) {
            b.write(0xC00 + 4 * i, 0x7F018002 + i, 4);
        }
        b.step(1);
        CHECKS.same("D0", b.register(0), 0x7F018002);
        CHECKS.same("D5", b.register(5), 0x7F018003);
        CHECKS.same("A1 at last what it came to", b.register(9), 0xC10);
        CHECKS.same("A7", b.register(15), 0x7F018005);
        CHECKS.same("D1 stays", b.register(1), value(1));
        CHECKS.same("no flags", Board.flags(b), 0x1F);
        b.put(9, 0xC02);
        b.step(1);
        CHECKS.same("word, extended", b.register(0), 0xFFFF8002);
        CHECKS.same("word of the upper half", b.register(5), 0x7F01);
        CHECKS.same("A1", b.register(9), 0xC06);
        b.put(9, 0xC08);
        b.step(1);
        CHECKS.same("A0 from memory", b.register(8), 0x7F018004);
        CHECKS.same("A1 itself from memory", b.register(9), 0x7F018005);
        b.put(9, 0xC01);
        b.step(1);
        CHECKS.same("none: A1 stays", b.register(9), 0xC01);
        BoardCore a = numbered(0x4C99, 0x0100);
        a.put(9, 0xC00);
        a.write(0xC00, 0x9000, 2);
        a.step(1);
        CHECKS.same("words of address registers are extended", a.register(8), 0xFFFF9000);
    }

    private static boolean holds(int c, int flags) {
        boolean carry = (flags & 1) != 0;
        boolean v = (flags & 2) != 0;
        boolean z = (flags & 4) != 0;
        boolean n = (flags & 8) != 0;
        boolean[] even = {true, !carry && !z, !carry, !z, !v, !n, n == v, !z && n == v};
        return even[c / 2] == (c % 2 == 0);
    }

    private static void conditions() {
        for (int c = 0; c < 16; c++) {
            for (int flags = 0; flags < 32; flags++) {
                BoardCore b = Board.with(0x50C0 | c << 8, 0x50D9 | c << 8, 0x6004 | c << 8);
                b.put(0, 0x12345678);
                b.put(9, 0xC01);
                b.write(0xC00, 0x77777777, 4);
                b.put(17, 0x2000 | flags);
                b.step(2);
                int due = holds(c, flags) ? 0xFF : 0;
                CHECKS.same("byte of D0 by " + c, b.register(0), 0x12345600 | due);
                CHECKS.same("byte of memory by " + c, b.read(0xC00, 4), 0x77007777 | due << 16);
                CHECKS.same("A1", b.register(9), 0xC02);
                CHECKS.same("flags stay", Board.flags(b), flags);
                b.step(1);
                boolean goes = c == 1 || holds(c, flags);
                CHECKS.same("branch by " + c, b.register(16), goes ? 0x40A : 0x406);
            }
        }
    }

    private static void countDown() {
        for (int c = 0; c < 16; c++) {
            for (int flags = 0; flags < 16; flags++) {
                for (int count = 0; count < 3; count++) {
                    BoardCore b = Board.with(0x50C9 | c << 8, 0xFFF0);
                    b.put(1, 0x12340000 | count);
                    b.put(17, 0x2000 | flags);
                    b.step(1);
                    boolean stops = holds(c, flags);
                    CHECKS.same("count", b.register(1), 0x12340000 | (stops ? count : count - 1 & 0xFFFF));
                    CHECKS.same("way", b.register(16), stops || count == 0 ? 0x404 : 0x402 - 0x10);
                    CHECKS.same("flags stay", Board.flags(b), flags);
                }
            }
        }
    }

    private static void exchanges() {
        BoardCore b = numbered(0xC142, 0xC14A, 0xC18A, 0xCF4F, 0xC78F);
        b.step(1);
        CHECKS.same("D0", b.register(0), value(2));
        CHECKS.same("D2", b.register(2), value(0));
        b.step(1);
        CHECKS.same("A0", b.register(8), value(10));
        CHECKS.same("A2", b.register(10), value(8));
        b.step(1);
        CHECKS.same("D0 and A2", b.register(0), value(8));
        CHECKS.same("A2 and D0", b.register(10), value(2));
        b.step(2);
        CHECKS.same("D3 and A7", b.register(3), value(15));
        CHECKS.same("A7 and D3", b.register(19), value(3));
        CHECKS.same("no flags", Board.flags(b), 0x1F);
    }

    private static void extensions() {
        int[] values = {0, 0x7F, 0x80, 0xFF, 0x7FFF, 0x8000, 0xFFFF, 0x12345678, 0x9234A0B0, 0x00010000, 0x80000000};
        for (int v : values) {
            BoardCore b = Board.with(0x4880, 0x48C1, 0x4842);
            b.put(0, v);
            b.put(1, v);
            b.put(2, v);
            b.put(17, 0x2013);
            b.step(1);
            int word = (byte) v;
            CHECKS.same("byte to a word", b.register(0), v & 0xFFFF0000 | word & 0xFFFF);
            CHECKS.same("its flags", Board.flags(b), 0x10 | (word < 0 ? Board.N : word == 0 ? Board.Z : 0));
            b.step(1);
            int wide = (short) v;
            CHECKS.same("word to a long", b.register(1), wide);
            CHECKS.same("its flags", Board.flags(b), 0x10 | (wide < 0 ? Board.N : wide == 0 ? Board.Z : 0));
            b.step(1);
            int turned = v >>> 16 | v << 16;
            CHECKS.same("words change places", b.register(2), turned);
            CHECKS.same("its flags", Board.flags(b), 0x10 | (turned < 0 ? Board.N : turned == 0 ? Board.Z : 0));
        }
    }

    private static void quickMoves() {
        for (int d = 0; d < 256; d++) {
            BoardCore b = Board.with(0x7A00 | d);
            b.put(5, 0x12345678);
            b.put(17, 0x2013);
            b.step(1);
            CHECKS.same("quick move", b.register(5), (byte) d);
            CHECKS.same("its flags", Board.flags(b), 0x10 | (d == 0 ? Board.Z : d > 127 ? Board.N : 0));
        }
    }

    private static void status() {
        int[][] joins = {
            {0x003C, 0xFF0A, 0x201B}, {0x023C, 0x0013, 0x2011}, {0x0A3C, 0xFFFF, 0x200E},
            {0x007C, 0x0500, 0x2511}, {0x027C, 0xFFFE, 0x2010}, {0x0A7C, 0x07FF, 0x270E},
            {0x007C, 0xFFFF, 0xA71F}, {0x027C, 0x0001, 0x0001}, {0x0A7C, 0x58E0, 0x2011},
        };
        for (int[] join : joins) {
            BoardCore b = Board.with(join[0], join[1]);
            b.put(17, 0x2011);
            b.step(1);
            CHECKS.same("status by " + Integer.toHexString(join[0]), b.register(17), join[2]);
            CHECKS.same("PC", b.register(16), 0x404);
        }
        BoardCore x = Board.with(0x0A7C, 0xFFFF);
        x.put(18, 0x700);
        x.put(17, 0x2205);
        x.step(1);
        CHECKS.same("exclusive or SR", x.register(17), 0x851A);
        CHECKS.same("A7 is the user's", x.register(15), 0x700);
        BoardCore m = Board.with(0x40C0, 0x40D9, 0x44C1, 0x44FC, 0xFFE5, 0x46C2, 0x46FC, 0x0512);
        m.put(0, 0x12345678);
        m.put(1, 0x1234FF0A);
        m.put(2, 0x00002713);
        m.put(9, 0xC00);
        m.put(17, 0x2015);
        m.step(2);
        CHECKS.same("SR to D0", m.register(0), 0x12342015);
        CHECKS.same("SR to memory", m.read(0xC00, 2), 0x2015);
        m.step(1);
        CHECKS.same("a word's low byte to CCR", m.register(17), 0x200A);
        m.step(1);
        CHECKS.same("CCR has five bits", m.register(17), 0x2005);
        m.step(1);
        CHECKS.same("D2 to SR", m.register(17), 0x2713);
        m.step(1);
        CHECKS.same("user now", m.register(17), 0x0512);
        m.put(16, 0x400);
        m.step(3);
        CHECKS.same("the user may read SR and write CCR", m.register(17), 0x050A);
        CHECKS.same("without exception", m.exceptions(0), 0);
    }

    private static void check() {
        int[] values = {0, 1, 5, 6, 0x7FFF, 0x8000, 0xFFFF, 0xFFFB, 0xFFFA};
        for (int v : values) {
            for (int bound : values) {
                for (int flags = 0; flags < 32; flags++) {
                    BoardCore b = Board.with(0x4380);
                    b.put(0, bound | 0x76540000);
                    b.put(1, v | 0x12340000);
                    b.put(17, 0x2000 | flags);
                    b.step(1);
                    boolean below = (short) v < 0;
                    boolean out = below || (short) v > (short) bound;
                    CHECKS.same("exception 6", b.exceptions(6), out ? 1 : 0);
                    int due = out ? below ? flags | Board.N : flags & ~Board.N : flags;
                    CHECKS.same("N alone", Board.flags(b), due);
                    if (out) {
                        CHECKS.same("N in the SR pushed", b.read(0x3FA, 2), 0x2000 | due);
                        CHECKS.same("PC behind it", b.read(0x3FC, 4), 0x402);
                    }
                }
            }
        }
    }
}
