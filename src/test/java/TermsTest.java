/** Sentences of the document that name no boundary case: what it is, and the plain ones of Terms. */
public final class TermsTest {
    private static final Checks CHECKS = new Checks();
    private static final Edge EDGE = new Edge(CHECKS);

    private TermsTest() {
    }

    public static void main(String[] args) {
        wholeBoard();
        calls();
        numbers();
        state();
        instruction();
        sumsAndDifferences();
        bytesApart();
        bits();
        moves();
        movesToAddressRegisters();
        addresses();
        andSumDifference();
        shifts();
        CHECKS.end();
    }

    private static void wholeBoard() {
        CHECKS.sentence("The processor of a board with sixteen registers and a wide word: all its instructions and "
            + "ways to tell operands, two modes with a stack each, exceptions and interrupts, on a memory of some "
            + "thousand bytes.");
        // The supervisor lets the user go on, who calls a row of instructions, then asks the supervisor.
        BoardCore b = Board.with(0x46FC, 0x0000, 0x6100, 0x00FA, 0x4E45, 0x60FE);
        Board.code(b, 0x500, 0x5280, 0x4E75);
        Board.code(b, Board.vector(37), 0x5281, 0x4E72, 0x2000, 0x4E73);
        Board.code(b, Board.vector(29), 0x5282, 0x4E73);
        b.put(Board.USP, 0xE00);
        b.put(Board.SSP, 0xF00);
        CHECKS.same("steps until it waits", b.step(100), 7);
        CHECKS.same("it waits", b.state(), 1);
        CHECKS.same("the user's PC on the supervisor's stack", b.read(0xEFC, 4), 0x40A);
        CHECKS.same("the user's SR behind it", b.read(0xEFA, 2), 0);
        CHECKS.same("what the user pushed is on his own", b.read(0xDFC, 4), 0x408);
        b.want(5);
        CHECKS.same("interrupt, its two, back, and on", b.step(5), 5);
        for (int k = 0; k < 3; k++) {
            CHECKS.same("each was done once, D" + k, b.register(k), 1);
        }
        CHECKS.same("the user goes on", b.register(Board.SR), 0);
        CHECKS.same("behind what he asked", b.register(Board.PC), 0x40A);
        CHECKS.same("his stack is as before", b.register(Board.USP), 0xE00);
        CHECKS.same("and the supervisor's", b.register(Board.SSP), 0xF00);
        CHECKS.same("exceptions", b.exceptions(37) * 10 + b.exceptions(29), 11);
    }

    private static void calls() {
        CHECKS.sentence("An object is used for at most 512 calls after it has been made; what later calls answer is free.");
        BoardCore b = new BoardCore();
        b.write(0x400, 0x528060FC, 4);
        for (int i = 0; i < 509; i++) {
            CHECKS.same("call " + (2 + i), b.step(3000), 3000);
        }
        CHECKS.same("call 511", b.register(0), 509 * 1500);
        CHECKS.same("call 512", b.sum(), 0x52 * 0x401 + 0x80 * 0x402 + 0x60 * 0x403 + 0xFC * 0x404);
    }

    private static void numbers() {
        CHECKS.sentence("NUMBERS that begin with 0x are to the base 16.");
        CHECKS.same("0x400 in PC", new BoardCore().register(16), 1024);
        CHECKS.same("0x400 in the supervisor's A7", new BoardCore().register(19), 4 * 16 * 16);
        CHECKS.sentence("A BYTE has 8 bits, a WORD 16, a LONG 32; a SIZE is one of them");
        EDGE.does("4600", "D0=0", "D0=FF SR=2008");
        EDGE.does("4640", "D0=0", "D0=FFFF SR=2008");
        EDGE.does("4680", "D0=0", "D0=FFFFFFFF SR=2008");
        EDGE.does("4610", "L.C00=0", "L.C00=FF000000 SR=2008");
        EDGE.does("4650", "L.C00=0", "L.C00=FFFF0000 SR=2008");
        EDGE.does("4690", "L.C00=0 L.C04=0", "L.C00=FFFFFFFF SR=2008");
    }

    private static void state() {
        CHECKS.sentence("STATE: data registers D0 .. D7, address registers A0 .. A7 (longs), PC, and SR: "
            + "bits 0 C, 1 V, 2 Z, 3 N, 4 X,");
        for (int k = 0; k < 16; k++) {
            BoardCore b = Board.with(0x23C0 | k, 0, 0xC00);
            b.put(k, 0x87654321 + k);
            b.step(1);
            CHECKS.same("a long of register " + k, b.read(0xC00, 4), 0x87654321 + k);
        }
        // By conditions 5, 9, 7 and 11, and by a sum with X.
        String[][] flags = {{"55C0", "1"}, {"59C0", "2"}, {"57C0", "4"}, {"5BC0", "8"}};
        for (String[] flag : flags) {
            int bit = Integer.parseInt(flag[1], 16);
            EDGE.does(flag[0], "D0=0 SR=" + Integer.toHexString(0x2000 | bit), "D0=FF");
            EDGE.does(flag[0], "D0=FF SR=" + Integer.toHexString(0xA71F & ~bit & ~Board.T), "D0=0");
        }
        EDGE.does("D181", "D0=0 D1=0 SR=2010", "D0=1 SR=2000");
        EDGE.does("D181", "D0=0 D1=0 SR=270F", "SR=2704");
    }

    private static void instruction() {
        CHECKS.sentence("AN INSTRUCTION is a word at PC, which goes on by 2");
        EDGE.does("7005", "PC=600", "D0=5 PC=602");
        EDGE.does("7005", "PC=2", "D0=5 PC=4");
        EDGE.does("4E71", "PC=12345670", "PC=12345672");
        BoardCore b = Board.with(0x7001, 0x7202, 0x7403);
        for (int i = 0; i < 3; i++) {
            b.step(1);
            CHECKS.same("PC", b.register(16), 0x402 + 2 * i);
            CHECKS.same("one after the other", b.register(i), i + 1);
            CHECKS.same("the next one not yet", b.register(i + 1), 0);
        }
    }

    private static void sumsAndDifferences() {
        CHECKS.sentence("SUMS a + b and DIFFERENCES a - b (with X: and 1 more taken, if X is 1): N, Z so");
        String[] sums = {"D001", "D041", "D081"};
        String[] differences = {"9001", "9041", "9081"};
        for (int s = 0; s < 3; s++) {
            // X is not taken, but becomes what C becomes.
            EDGE.does(sums[s], "D0=5 D1=3 SR=2000", "D0=8");
            EDGE.does(sums[s], "D0=5 D1=3 SR=201F", "D0=8 SR=2000");
            EDGE.does(differences[s], "D0=5 D1=3 SR=2000", "D0=2");
            EDGE.does(differences[s], "D0=5 D1=3 SR=201F", "D0=2 SR=2000");
            EDGE.does(differences[s], "D0=5 D1=5 SR=201B", "D0=0 SR=2004");
        }
        EDGE.does("D081", "D0=FFFFFFF0 D1=1", "D0=FFFFFFF1 SR=2008");
        String[] withX = {"D101", "D141", "D181"};
        String[] lessX = {"9101", "9141", "9181"};
        for (int s = 0; s < 3; s++) {
            EDGE.does(withX[s], "D0=5 D1=3 SR=2000", "D0=8");
            EDGE.does(withX[s], "D0=5 D1=3 SR=2010", "D0=9 SR=2000");
            EDGE.does(lessX[s], "D0=5 D1=3 SR=2000", "D0=2");
            EDGE.does(lessX[s], "D0=5 D1=3 SR=2010", "D0=1 SR=2000");
        }
        EDGE.does("9181", "D0=0 D1=0 SR=2010", "D0=FFFFFFFF SR=2019");
    }

    private static void bytesApart() {
        CHECKS.sentence("0000 rrr1 kk00 1yyy (k 0 to 3): bytes at Ay and a word, extended, and each second one behind it");
        String memory = " L.C10=11223344 L.C14=55667788";
        for (int y = 0; y < 7; y++) {
            String a = "A" + y + "=C00 D5=0";
            EDGE.does(Integer.toHexString(0x0B08 | y) + " 0010", a + memory, "D5=1133");
            EDGE.does(Integer.toHexString(0x0B48 | y) + " 0010", a + memory, "D5=11335577");
            EDGE.does(Integer.toHexString(0x0B48 | y) + " 0011", a + memory, "D5=22446688");
            EDGE.does(Integer.toHexString(0x0B88 | y) + " 0010", a + memory, "B.C10=0 B.C12=0");
            EDGE.does(Integer.toHexString(0x0BC8 | y) + " 0010", a + memory, "B.C10=0 B.C12=0 B.C14=0 B.C16=0");
            EDGE.does(Integer.toHexString(0x0B48 | y) + " FFF0", "A" + y + "=C20 D5=0" + memory, "D5=11335577");
        }
    }

    private static void bits() {
        CHECKS.sentence("0000 rrr1 ttee eeee: a BIT of the operand with the number in Dr");
        for (int r = 1; r < 8; r++) {
            for (int number = 0; number < 32; number += 5) {
                String one = Integer.toHexString(1 << number);
                String before = "D" + r + "=" + Integer.toHexString(number) + " D0=" + one;
                EDGE.does(Integer.toHexString(0x0100 | r << 9), before + " SR=2004", "SR=2000");
                EDGE.does(Integer.toHexString(0x0140 | r << 9), before, "D0=0");
                EDGE.does(Integer.toHexString(0x0180 | r << 9), before, "D0=0");
                EDGE.does(Integer.toHexString(0x01C0 | r << 9), before, "");
            }
        }
        // The register that tells the number may be the one that is looked at.
        EDGE.does("0100", "D0=3", "SR=2004");
        EDGE.does("0140", "D0=3", "D0=B SR=2004");
        EDGE.does("0180", "D0=1", "SR=2004");
    }

    private static void moves() {
        CHECKS.sentence("00ss rrrm mmee eeee (s 1 byte, 3 word, 2 long; m r here the destination): the source (any) "
            + "is put there (data alterable); logic.");
        String before = "D1=87654381 A2=C40 SR=201F";
        EDGE.does("1601", before + " D3=0", "D3=81 SR=2018");
        EDGE.does("3601", before + " D3=0", "D3=4381 SR=2010");
        EDGE.does("2601", before + " D3=0", "D3=87654381 SR=2018");
        EDGE.does("1481", before, "B.C40=81 SR=2018");
        EDGE.does("3481", before, "W.C40=4381 SR=2010");
        EDGE.does("2481", before, "L.C40=87654381 SR=2018");
        EDGE.does("24C1", before, "L.C40=87654381 A2=C44 SR=2018");
        EDGE.does("2501", before, "L.C3C=87654381 A2=C3C SR=2018");
        EDGE.does("2541 0010", before, "L.C50=87654381 SR=2018");
        EDGE.does("2581 3810", before + " D3=20", "L.C70=87654381 SR=2018");
        EDGE.does("21C1 0C90", before, "L.C90=87654381 SR=2018");
        EDGE.does("23C1 0000 0CA0", before, "L.CA0=87654381 SR=2018");
        EDGE.does("2609", "A1=0 SR=200B", "D3=0 SR=2004");
        EDGE.does("36BC 8000", "A3=C40 SR=2000", "W.C40=8000 SR=2008");
    }

    private static void movesToAddressRegisters() {
        CHECKS.sentence("m 1: a word or long to Ar, extended, no flags.");
        for (int r = 0; r < 7; r++) {
            String a = "A" + r + "=";
            EDGE.does(Integer.toHexString(0x3041 | r << 9), "D1=12347FFF SR=201F", a + "7FFF");
            EDGE.does(Integer.toHexString(0x3041 | r << 9), "D1=12348000 SR=2000", a + "FFFF8000");
            EDGE.does(Integer.toHexString(0x2041 | r << 9), "D1=80000000 SR=2000", a + "80000000");
            EDGE.does(Integer.toHexString(0x2041 | r << 9), "D1=0 SR=201F", a + "0");
            EDGE.refuses(4, Integer.toHexString(0x1041 | r << 9), "");
        }
        EDGE.does("3E41", "D1=8000", "SS=FFFF8000");
        EDGE.does("3E41", "D1=8000 SR=0", "US=FFFF8000");
    }

    private static void addresses() {
        CHECKS.sentence("0100 rrr1 11ee eeee: an address (control) to Ar.");
        EDGE.does("43D0", "A0=12345678 SR=201F", "A1=12345678");
        EDGE.does("43E8 FFFF", "A0=12345678 SR=2000", "A1=12345677");
        EDGE.does("43F0 2802", "A0=12345678 D2=1", "A1=1234567B");
        EDGE.does("43F8 8000", "", "A1=FFFF8000");
        EDGE.does("43F9 1234 5679", "", "A1=12345679");
        EDGE.does("43FA 0010", "", "A1=412");
        EDGE.does("43FB 2810", "D2=3", "A1=415");
        EDGE.does("41D0", "A0=C01", "");
        EDGE.does("4FEF 0010", "SR=0", "US=E10");
        EDGE.does("4FEF 0010", "", "SS=F10");
    }

    private static void andSumDifference() {
        CHECKS.sentence("1100: and. 1101: sum, 1001: difference");
        String before = "D1=6 D0=3 A0=C00 B.C00=6";
        EDGE.does("C200", before, "D1=2");
        EDGE.does("D200", before, "D1=9");
        EDGE.does("9200", before, "D1=3");
        EDGE.does("C110", before, "B.C00=2");
        EDGE.does("D110", before, "B.C00=9");
        EDGE.does("9110", before, "B.C00=3");
        EDGE.does("8200", before, "D1=7");
        EDGE.does("8110", before, "B.C00=7");
    }

    private static void shifts() {
        CHECKS.sentence("1110 rrrd ssit tyyy, s not 3: Dy of a size is shifted, d 1 left, 0 right");
        for (int y = 0; y < 8; y++) {
            String d = "D" + y + "=";
            EDGE.does(Integer.toHexString(0xE308 | y), d + "12343412", d + "12343424");
            EDGE.does(Integer.toHexString(0xE348 | y), d + "12343412", d + "12346824");
            EDGE.does(Integer.toHexString(0xE388 | y), d + "12343412", d + "24686824");
            EDGE.does(Integer.toHexString(0xE208 | y), d + "12343412", d + "12343409");
            EDGE.does(Integer.toHexString(0xE248 | y), d + "12343412", d + "12341A09");
            EDGE.does(Integer.toHexString(0xE288 | y), d + "12343412", d + "091A1A09");
        }
        // With s 3 these bits are those of a word in memory, or of nothing.
        EDGE.refuses(4, "E1C1", "");
        EDGE.refuses(4, "EFE8", "");
        EDGE.does("E3D1", "A1=C00 W.C00=1234", "W.C00=2468");
    }
}
