/** Promise 8: the boundary cases that Terms names for each instruction, sentence by sentence. */
public final class EdgeInstructionsTest {
    private static final Checks CHECKS = new Checks();
    private static final Edge EDGE = new Edge(CHECKS);

    private EdgeInstructionsTest() {
    }

    public static void main(String[] args) {
        joinedStatus();
        bytesApart();
        bits();
        numbersInFront();
        movedStatus();
        singles();
        decimalSingles();
        places();
        manyRegisters();
        manyDownward();
        manyFromMemory();
        highestBit();
        specials();
        links();
        returns();
        jumps();
        checks();
        countDown();
        byConditions();
        quick();
        branches();
        quickMoves();
        directions();
        quotients();
        quotientsWithSigns();
        products();
        pairs();
        exchanges();
        CHECKS.end();
    }

    private static void joinedStatus() {
        CHECKS.sentence("0000 0000 0011 1100, 0000 0010 .., 0000 1010 ..: an extension word's low byte or, and, "
            + "exclusive or CCR.");
        EDGE.does("003C FF00", "SR=2715", "");
        EDGE.does("003C 001F", "SR=2700", "SR=271F");
        EDGE.does("023C FF1F", "SR=2715", "");
        EDGE.does("023C 0000", "SR=271F", "SR=2700");
        EDGE.does("0A3C FF00", "SR=2715", "");
        EDGE.does("0A3C 001F", "SR=2715", "SR=270A");
        EDGE.does("003C 0010", "SR=0", "SR=10");
        EDGE.does("023C 0000", "SR=1F", "SR=0");
        EDGE.does("0A3C 0001", "SR=1", "SR=0");
        CHECKS.sentence("The same with 0111 for 0011: the word and SR; S only.");
        EDGE.does("007C 0700", "SR=2015", "SR=2715");
        EDGE.does("027C FFFF", "SR=2715", "");
        EDGE.does("027C 0000", "SR=271F", "SR=0");
        EDGE.does("027C DFFF", "SR=2715", "SR=715");
        EDGE.does("0A7C 2000", "SR=2715", "SR=715");
        EDGE.refuses(8, "007C 2000", "SR=0");
        EDGE.refuses(8, "027C FFFF", "SR=71F");
        EDGE.refuses(8, "0A7C 0000", "SR=0");
    }

    private static void bytesApart() {
        CHECKS.sentence("k 0 two of them to the word of Dr, 1 four to Dr, highest first; 2 and 3 back from it. No "
            + "flags.");
        EDGE.does("0108 0000", "A0=C00 L.C00=12993499 SR=201F", "D0=0D001234");
        EDGE.does("0108 FFFF", "A0=C01 L.C00=80998099", "D0=0D008080");
        EDGE.does("0108 7FFF", "A0=C02 L.C00=99129934", "D0=0D001234");
        EDGE.does("0108 8000", "A0=C00 L.C00=12993499", "D0=0D001234");
        EDGE.does("0148 0000", "A0=C00 L.C00=89998899 L.C04=87998699 SR=2000", "D0=89888786");
        EDGE.does("0F4F 0001", "SS=F00 L.F00=99129934 L.F04=99569978", "D7=12345678");
        EDGE.does("0188 0000", "A0=C00 D0=12345678 L.C00=99999999 SR=201F", "B.C00=56 B.C02=78");
        EDGE.does("01C8 FFFF", "A0=C00 D0=12345678 SR=2000", "B.BFF=12 B.C01=34 B.C03=56 B.C05=78");
        EDGE.does("0F8F 0000", "SR=0 D7=1234", "B.E00=12 B.E02=34");
    }

    private static void bits() {
        CHECKS.sentence("modulo 32 of a long for mode 0");
        String[][] numbers = {
            {"0", "1"}, {"1", "2"}, {"7", "80"}, {"8", "100"}, {"1F", "80000000"}, {"20", "1"}, {"21", "2"}, {"3F", "80000000"},
            {"40", "1"}, {"FFFFFFFF", "80000000"}, {"80000000", "1"}, {"FFFFFFE0", "1"},
        };
        for (String[] n : numbers) {
            EDGE.does("0141", "D0=" + n[0] + " D1=0", "D1=" + n[1] + " SR=2004");
            EDGE.does("01C1", "D0=" + n[0] + " D1=0", "D1=" + n[1] + " SR=2004");
            EDGE.does("0181", "D0=" + n[0] + " D1=" + n[1] + " SR=2004", "D1=0 SR=2000");
            EDGE.does("0101", "D0=" + n[0] + " D1=" + n[1] + " SR=2004", "SR=2000");
        }
        EDGE.does("0147", "D0=1F D7=0", "D7=80000000 SR=2004");
        CHECKS.sentence("else modulo 8 of a byte");
        String[][] small = {
            {"0", "1"}, {"7", "80"}, {"8", "1"}, {"9", "2"}, {"1F", "80"}, {"20", "1"}, {"FFFFFFFF", "80"}, {"80000000", "1"},
        };
        for (String[] n : small) {
            EDGE.does("0150", "D0=" + n[0] + " A0=C01", "B.C01=" + n[1] + " SR=2004");
            EDGE.does("01D8", "D0=" + n[0] + " A0=C01", "B.C01=" + n[1] + " SR=2004 A0=C02");
            EDGE.does("01A7", "D0=" + n[0] + " B.EFE=" + n[1], "B.EFE=0 SS=EFE");
            EDGE.does("0110", "D0=" + n[0] + " B.C00=" + n[1] + " SR=2004", "SR=2000");
        }
        CHECKS.sentence("Z is 1 if it is 0; then t 0 nothing (data), 1 it is turned, 2 it is 0, 3 it is 1 (data "
            + "alterable).");
        EDGE.does("0101", "D0=4 D1=10 SR=201F", "SR=201B");
        EDGE.does("0101", "D0=4 D1=FFFFFFEF SR=201B", "SR=201F");
        EDGE.does("0141", "D0=4 D1=FFFFFFFF SR=201F", "D1=FFFFFFEF SR=201B");
        EDGE.does("0141", "D0=4 D1=FFFFFFEF SR=2000", "D1=FFFFFFFF SR=2004");
        EDGE.does("0181", "D0=4 D1=FFFFFFFF SR=201F", "D1=FFFFFFEF SR=201B");
        EDGE.does("0181", "D0=4 D1=FFFFFFEF SR=2000", "SR=2004");
        EDGE.does("01C1", "D0=4 D1=FFFFFFFF SR=201F", "SR=201B");
        EDGE.does("01C1", "D0=4 D1=0 SR=2000", "D1=10 SR=2004");
        CHECKS.sentence("0000 1000 ttee eeee: with the number in an extension word in front of the operand's");
        EDGE.does("0841 001F", "D1=0", "D1=80000000 SR=2004");
        EDGE.does("0841 0020", "D1=0", "D1=1 SR=2004");
        EDGE.does("0841 FFFF", "D1=0", "D1=80000000 SR=2004");
        EDGE.does("0841 FFE0", "D1=0", "D1=1 SR=2004");
        EDGE.does("0850 0007", "", "B.C00=80 SR=2004");
        EDGE.does("0850 0008", "", "B.C00=1 SR=2004");
        EDGE.does("0850 FFFF", "", "B.C00=80 SR=2004");
        EDGE.does("0838 0007 0C10", "B.C10=80 SR=2004", "SR=2000");
        EDGE.does("08B8 0007 0C10", "B.C10=80 SR=2004", "B.C10=0 SR=2000");
        EDGE.does("08E8 0000 0010", "", "B.C10=1 SR=2004");
        EDGE.refuses(4, "083C 0001 0001", "");
    }

    private static void numbersInFront() {
        CHECKS.sentence("i 0 or, 1 and, 2 less it, 3 and it (sum), 5 exclusive or; 6 compared with it.");
        EDGE.does("0040 FF00", "D0=FF", "D0=FFFF SR=2008");
        EDGE.does("0240 00F0", "D0=FF", "D0=F0");
        EDGE.does("0440 0005", "D0=3", "D0=FFFE SR=2019");
        EDGE.does("0640 0005", "D0=3", "D0=8");
        EDGE.does("0A40 00FF", "D0=FF", "D0=0 SR=2004");
        EDGE.does("0C40 0005", "D0=3", "SR=2009");
        EDGE.does("0C40 0003", "D0=5", "");
        EDGE.does("0480 8000 0000", "D0=7FFFFFFF", "D0=FFFFFFFF SR=201B");
        EDGE.does("061F 0001", "B.F00=7F", "B.F00=80 SS=F02 SR=200A");
        CHECKS.sentence("0000 iii0 ssee eeee: a source in extension words of the size (in front) and the operand "
            + "(data alterable), s not 3");
        for (int i = 0; i < 7; i++) {
            if (i != 4) {
                EDGE.refuses(4, Integer.toHexString(i << 9 | 0xC0), "");
            }
        }
        EDGE.refuses(4, "0E00", "");
        EDGE.refuses(4, "0E40", "");
        EDGE.refuses(4, "0E80", "");
    }

    private static void movedStatus() {
        CHECKS.sentence("0100 0000 11ee eeee: SR to a word (data alterable).");
        EDGE.does("40C0", "SR=71F D0=12345678", "D0=1234071F");
        EDGE.does("40D8", "SR=2715", "W.C00=2715 A0=C02");
        EDGE.does("40E7", "SR=2715", "W.EFE=2715 SS=EFE");
        CHECKS.sentence("0100 0100 11..: a word's low byte (data) to CCR.");
        EDGE.does("44C0", "D0=FFFFFF00 SR=271F", "SR=2700");
        EDGE.does("44D8", "W.C00=FF15 SR=0", "SR=15 A0=C02");
        EDGE.does("44DF", "W.F00=1F SR=2000", "SR=201F SS=F02");
        EDGE.faults(0xC01, "44D0", "A0=C01");
        CHECKS.sentence("0100 0110 11..: a word (data) to SR; S only.");
        EDGE.does("46C0", "D0=FFFF2700 SR=201F", "SR=2700");
        EDGE.does("46D8", "W.C00=8715", "SR=8715 A0=C02");
        EDGE.does("46DF", "W.F00=15", "SR=15 SS=F02");
        EDGE.faults(0xC01, "46D0", "A0=C01");
        EDGE.refuses(8, "46D8", "SR=0 W.C00=2700");
        EDGE.refuses(8, "46D0", "SR=0 A0=C01");
    }

    private static void singles() {
        CHECKS.sentence("0100 0000 ssee eeee: 0 less the operand, with X.");
        EDGE.does("4000", "D0=0 SR=2004", "");
        EDGE.does("4000", "D0=0 SR=2000", "");
        EDGE.does("4000", "D0=0 SR=2014", "D0=FF SR=2019");
        EDGE.does("4000", "D0=80 SR=2000", "SR=201B");
        EDGE.does("4000", "D0=80 SR=2010", "D0=7F SR=2011");
        EDGE.does("4000", "D0=FF SR=2014", "D0=0 SR=2015");
        EDGE.does("4040", "D0=1FFFF SR=2010", "D0=10000 SR=2011");
        EDGE.does("4080", "D0=80000000 SR=2010", "D0=7FFFFFFF SR=2011");
        EDGE.does("4080", "D0=FFFFFFFF SR=2014", "D0=0 SR=2015");
        CHECKS.sentence("0010: it becomes 0 (logic).");
        EDGE.does("4200", "D0=FFFFFFFF SR=201B", "D0=FFFFFF00 SR=2014");
        EDGE.does("4240", "D0=FFFFFFFF SR=200B", "D0=FFFF0000 SR=2004");
        EDGE.does("429F", "L.F00=FFFFFFFF SR=201B", "L.F00=0 SS=F04 SR=2014");
        CHECKS.sentence("0100: 0 less it.");
        EDGE.does("4400", "D0=0 SR=201B", "SR=2004");
        EDGE.does("4400", "D0=1 SR=2014", "D0=FF SR=2019");
        EDGE.does("4400", "D0=80", "SR=201B");
        EDGE.does("4440", "D0=8000", "SR=201B");
        EDGE.does("4480", "D0=80000000", "SR=201B");
        EDGE.does("4480", "D0=FFFFFFFF", "D0=1 SR=2011");
        CHECKS.sentence("0110: all bits turned (logic).");
        EDGE.does("4600", "D0=FF SR=201B", "D0=0 SR=2014");
        EDGE.does("4640", "D0=0 SR=2017", "D0=FFFF SR=2018");
        EDGE.does("4680", "D0=80000000 SR=201F", "D0=7FFFFFFF SR=2010");
        CHECKS.sentence("1010 (for the four bits in second place): logic flags of it.");
        EDGE.does("4A00", "D0=FFFFFF00 SR=201B", "SR=2014");
        EDGE.does("4A40", "D0=FFFF8000 SR=2017", "SR=2018");
        EDGE.does("4A80", "D0=7FFFFFFF SR=201F", "SR=2010");
        EDGE.does("4A27", "B.EFE=80", "SS=EFE SR=2008");
    }

    private static void decimalSingles() {
        CHECKS.sentence("0100 1000 00ee eeee: 0 less the operand, with X, in DECIMAL, a byte (data alterable).");
        EDGE.does("4800", "D0=12345600 SR=2004", "");
        EDGE.does("4800", "D0=12345600 SR=2000", "");
        EDGE.does("4800", "D0=12345600 SR=2014", "D0=12345699 SR=2011");
        EDGE.does("4800", "D0=1 SR=2004", "D0=99 SR=2011");
        EDGE.does("4800", "D0=1 SR=2010", "D0=98 SR=2011");
        EDGE.does("4800", "D0=99 SR=2000", "D0=1 SR=2011");
        EDGE.does("4800", "D0=99 SR=2014", "D0=0 SR=2015");
        EDGE.does("4800", "D0=99 SR=2010", "D0=0 SR=2011");
        EDGE.does("4800", "D0=1 SR=200A", "D0=99 SR=201B");
        EDGE.does("481F", "B.F00=50", "B.F00=50 SS=F02 SR=2011");
        EDGE.does("4818", "B.C00=1", "B.C00=99 A0=C01 SR=2011");
    }

    private static void places() {
        CHECKS.sentence("0100 1000 0100 0yyy: the words of Dy change places (logic, long).");
        EDGE.does("4840", "D0=12345678 SR=201F", "D0=56781234 SR=2010");
        EDGE.does("4840", "D0=8000 SR=2007", "D0=80000000 SR=2008");
        EDGE.does("4840", "D0=80000000 SR=200F", "D0=8000 SR=2000");
        EDGE.does("4840", "D0=0 SR=201B", "SR=2014");
        EDGE.does("4847", "D7=12345678", "D7=56781234");
        CHECKS.sentence("0100 1000 01ee eeee: an address (control) is pushed.");
        EDGE.does("4857", "SS=F00", "SS=EFC L.EFC=F00");
        EDGE.does("486F FFFC", "SS=F00", "SS=EFC L.EFC=EFC");
        EDGE.does("4878 8000", "SR=201F", "SS=EFC L.EFC=FFFF8000");
        EDGE.does("487A 0000", "", "SS=EFC L.EFC=402");
        CHECKS.sentence("0100 1000 1s00 0yyy: s 0 the byte of Dy extended to a word, 1 the word to a long (logic).");
        EDGE.does("4880", "D0=12345600 SR=201B", "D0=12340000 SR=2014");
        EDGE.does("4880", "D0=1234FF7F SR=201F", "D0=1234007F SR=2010");
        EDGE.does("4880", "D0=12340080 SR=2007", "D0=1234FF80 SR=2008");
        EDGE.does("48C0", "D0=FFFF0000 SR=201B", "D0=0 SR=2014");
        EDGE.does("48C0", "D0=FFFF7FFF SR=201F", "D0=7FFF SR=2010");
        EDGE.does("48C0", "D0=8000 SR=2007", "D0=FFFF8000 SR=2008");
        EDGE.does("4881", "D1=12345680", "D1=1234FF80 SR=2008");
        EDGE.does("48C7", "D7=12348000", "D7=FFFF8000 SR=2008");
    }

    private static int value(int k) {
        return 0x81828000 + 0x01010101 * k;
    }

    /** Registers 0 to 14 with values of their own, but register 8 with an address. */
    private static String numbered(String a0) {
        StringBuilder text = new StringBuilder("A0=" + a0);
        for (int k = 0; k < 15; k++) {
            if (k != 8) {
                text.append(k < 8 ? " D" + k : " A" + (k - 8)).append("=").append(Integer.toHexString(value(k)));
            }
        }
        return text.append(" SR=201F SS=F00").toString();
    }

    /** The sixteen registers of numbered as they lie in memory from an address on. */
    private static String row(int address, int bytes, int a0) {
        StringBuilder text = new StringBuilder();
        for (int k = 0; k < 16; k++) {
            int v = k == 8 ? a0 : k == 15 ? 0xF00 : value(k);
            text.append(bytes == 2 ? " W." : " L.").append(Integer.toHexString(address + bytes * k)).append("=");
            text.append(Integer.toHexString(bytes == 2 ? v & 0xFFFF : v));
        }
        return text.toString();
    }

    private static void manyRegisters() {
        CHECKS.sentence("0100 1000 1see eeee, 0100 1100 1s..: s 0 words, 1 longs, of the registers of which an "
            + "extension word (in front) has bits: 0 to 7 D0 .. D7, 8 to 15 A0 .. A7");
        EDGE.does("48D0 0000", "SR=201F", "");
        EDGE.does("4890 0000", "A0=C01", "");
        EDGE.does("48D0 FFFF", numbered("C00"), row(0xC00, 4, 0xC00));
        EDGE.does("4890 FFFF", numbered("C00"), row(0xC00, 2, 0xC00));
        EDGE.does("48F8 FFFF 0D00", numbered("C00"), row(0xD00, 4, 0xC00));
        for (int k = 0; k < 16; k++) {
            String list = String.format("%04x", 1 << k);
            int v = k == 8 ? 0xC00 : k == 15 ? 0xF00 : value(k);
            EDGE.does("48D0 " + list, numbered("C00"), "L.C00=" + Integer.toHexString(v));
            EDGE.does("4890 " + list, numbered("C00"), "W.C00=" + Integer.toHexString(v & 0xFFFF));
        }
        EDGE.does("48D0 8001", "D0=12345678 SS=F00", "L.C00=12345678 L.C04=F00");
        EDGE.does("48D0 8000", "SR=0", "L.C00=E00");
    }

    private static void manyDownward() {
        CHECKS.sentence("downward, the bits in opposite order, A7 first with bit 0, Ay at last what it came to; "
            + "Ay itself is stored as it was before");
        EDGE.does("48E0 0000", "SR=201F", "");
        EDGE.does("48A0 0000", "A0=C01", "");
        EDGE.does("48E0 FFFF", numbered("D00"), row(0xCC0, 4, 0xD00) + " A0=CC0");
        EDGE.does("48A0 FFFF", numbered("D00"), row(0xCE0, 2, 0xD00) + " A0=CE0");
        for (int k = 0; k < 16; k++) {
            String list = String.format("%04x", 0x8000 >>> k);
            int v = k == 8 ? 0xC04 : k == 15 ? 0xF00 : value(k);
            EDGE.does("48E0 " + list, numbered("C04"), "A0=C00 L.C00=" + Integer.toHexString(v));
            EDGE.does("48A0 " + list, numbered("C04"), "A0=C02 W.C02=" + Integer.toHexString(v & 0xFFFF));
        }
        EDGE.does("48E7 0001", "SS=F00", "SS=EFC L.EFC=F00");
        EDGE.does("48E7 8001", "SS=F00 D0=12345678", "SS=EF8 L.EFC=F00 L.EF8=12345678");
        EDGE.does("48E0 0080", "A0=0", "A0=FFFFFFFC L.FFC=0");
        EDGE.does("48E0 0040", "A0=2 A1=12345678", "A0=FFFFFFFE L.FFE=12345678");
        EDGE.faults(0xC01 - 2, "48A0 0001", "A0=C01");
        EDGE.faults(0xC01 - 4, "48E0 0001", "A0=C01");
    }

    private static void manyFromMemory() {
        CHECKS.sentence("or the second one from memory (control; or mode 3, Ay at last what it came to): "
            + "words are extended to longs.");
        EDGE.does("4CD0 0000", "SR=201F", "");
        EDGE.does("4C98 0000", "A0=C01", "");
        EDGE.does("4CD8 0000", "SR=201F", "");
        StringBuilder longs = new StringBuilder("A0=C00 SR=201F");
        StringBuilder all = new StringBuilder();
        StringBuilder words = new StringBuilder("A0=C00 SR=2000");
        StringBuilder extended = new StringBuilder();
        for (int k = 0; k < 16; k++) {
            String name = k < 8 ? " D" + k + "=" : k < 15 ? " A" + (k - 8) + "=" : " SS=";
            int word = k % 2 == 0 ? 0x8000 + k : 0x7FF0 + k;
            longs.append(" L.").append(Integer.toHexString(0xC00 + 4 * k)).append("=").append(Integer.toHexString(value(k)));
            all.append(name).append(Integer.toHexString(value(k)));
            words.append(" W.").append(Integer.toHexString(0xC00 + 2 * k)).append("=").append(Integer.toHexString(word));
            extended.append(name).append(Integer.toHexString((short) word));
        }
        EDGE.does("4CD0 FFFF", longs.toString(), all.toString());
        EDGE.does("4CD8 FFFF", longs.toString(), all + " A0=C40");
        EDGE.does("4C90 FFFF", words.toString(), extended.toString());
        EDGE.does("4C98 FFFF", words.toString(), extended + " A0=C20");
        EDGE.does("4C98 0001", "W.C00=7FFF", "D0=7FFF A0=C02");
        EDGE.does("4C98 0001", "W.C00=8000", "D0=FFFF8000 A0=C02");
        EDGE.does("4C90 0100", "W.C00=8000", "A0=FFFF8000");
        EDGE.does("4C98 0100", "W.C00=8000", "A0=C02");
        EDGE.does("4CDF 8001", "L.F00=12345678 L.F04=1", "D0=12345678 SS=F08");
        EDGE.does("4CDF 8000", "SR=0 L.E00=600", "US=E04");
        EDGE.does("4CFB 0002 0804", "D0=2 L.40A=12345678", "D1=12345678");
        EDGE.faults(0xC01, "4C98 8000", "A0=C01");
    }

    private static void highestBit() {
        CHECKS.sentence("0100 1010 11ee eeee: logic flags of a byte (data alterable), then its highest bit is 1. "
            + "(0100 1010 1111 1100 is illegal.)");
        EDGE.does("4AC0", "D0=12345600 SR=201B", "D0=12345680 SR=2014");
        EDGE.does("4AC0", "D0=1234567F SR=201F", "D0=123456FF SR=2010");
        EDGE.does("4AC0", "D0=12345680 SR=2007", "SR=2008");
        EDGE.does("4ADF", "B.F00=1", "B.F00=81 SS=F02");
        EDGE.does("4AE0", "A0=C02 B.C01=FF", "A0=C01 SR=2008");
        EDGE.refuses(4, "4AFC", "");
        EDGE.refuses(4, "4AFC", "SR=71F");
    }

    private static void specials() {
        CHECKS.sentence("0100 1110 0100 vvvv: exception 32 and v.");
        for (int v = 0; v < 16; v++) {
            EDGE.raises(32 + v, 0x402, Integer.toHexString(0x4E40 | v), "SR=71F", "");
        }
        CHECKS.sentence("0110 0yyy: Ay to the user's A7; 0110 1yyy: back; S only.");
        EDGE.does("4E60", "A0=12345678", "US=12345678");
        EDGE.does("4E68", "US=12345678", "A0=12345678");
        EDGE.does("4E66", "A6=FFFFFFFF", "US=FFFFFFFF");
        EDGE.does("4E67", "SS=F00 US=E00", "US=F00");
        EDGE.does("4E6F", "SS=F00 US=E00", "SS=E00");
        EDGE.refuses(8, "4E60", "SR=0");
        EDGE.refuses(8, "4E68", "SR=0");
        EDGE.refuses(8, "4E6F", "SR=0");
        CHECKS.sentence("0111 0000: nothing, S only. 0001: nothing.");
        EDGE.does("4E70", "SR=271F", "");
        EDGE.refuses(8, "4E70", "SR=71F");
        EDGE.does("4E71", "SR=271F", "");
        EDGE.does("4E71", "SR=71F", "");
        CHECKS.sentence("0010: SR becomes an extension word, and the machine WAITS for an interrupt; S only.");
        waits("4E72 2715", "SR=2000", "SR=2715");
        waits("4E72 0000", "SR=271F", "SR=0");
        waits("4E72 8000", "SR=2000", "SR=8000");
        EDGE.refuses(8, "4E72 2700", "SR=0");
        CHECKS.same("goes on", EDGE.board().state(), 0);
        CHECKS.sentence("0110: if V is 1, exception 7.");
        EDGE.raises(7, 0x402, "4E76", "SR=2002", "");
        EDGE.raises(7, 0x402, "4E76", "SR=1F", "");
        EDGE.does("4E76", "SR=201D", "");
        EDGE.does("4E76", "SR=0", "");
    }

    private static void waits(String code, String before, String after) {
        EDGE.does(code, before, after);
        CHECKS.same("it waits", EDGE.board().state(), 1);
        CHECKS.same("no step", EDGE.board().step(5), 0);
    }

    private static void links() {
        CHECKS.sentence("0101 0yyy: Ay (A7 as it was) is pushed, becomes A7, then A7 grows by an extension word, "
            + "extended.");
        EDGE.does("4E50 0000", "A0=12345678", "L.EFC=12345678 A0=EFC SS=EFC");
        EDGE.does("4E50 7FFF", "A0=12345678", "L.EFC=12345678 A0=EFC SS=8EFB");
        EDGE.does("4E50 8000", "A0=12345678", "L.EFC=12345678 A0=EFC SS=FFFF8EFC");
        EDGE.does("4E50 FFFE", "A0=5 SS=4", "L.0=5 A0=0 SS=FFFFFFFE");
        EDGE.does("4E57 0000", "", "L.EFC=F00 SS=EFC");
        EDGE.does("4E57 FFF8", "", "L.EFC=F00 SS=EF4");
        EDGE.does("4E57 0008", "SR=0", "L.DFC=E00 US=E04");
        CHECKS.sentence("0101 1yyy: A7 becomes Ay, Ay is popped (an A7 is what was popped).");
        EDGE.does("4E58", "A0=D00 L.D00=12345678", "A0=12345678 SS=D04");
        EDGE.does("4E58", "SR=0 A0=FFE L.FFE=12345678", "A0=12345678 US=1002");
        EDGE.does("4E5F", "SS=D00 L.D00=12345678", "SS=12345678");
        EDGE.does("4E5F", "SR=0 US=D00 L.D00=12345678", "US=12345678");
        EDGE.faults(0xD01, "4E58", "A0=D01");
    }

    private static void returns() {
        CHECKS.sentence("0011: SR (a word), then PC are popped, both from the supervisor's stack; S only.");
        EDGE.does("4E73", "W.F00=2715 L.F02=12345678", "SR=2715 PC=12345678 SS=F06");
        EDGE.does("4E73", "W.F00=15 L.F02=600 L.E00=700 L.E04=800", "SR=15 PC=600 SS=F06");
        EDGE.does("4E73", "W.F00=8000 L.F02=600", "SR=8000 PC=600 SS=F06");
        EDGE.refuses(8, "4E73", "SR=0 W.E00=2700 L.E02=600");
        CHECKS.sentence("0101: PC is popped.");
        EDGE.does("4E75", "L.F00=12345678 SR=201F", "PC=12345678 SS=F04");
        EDGE.does("4E75", "L.E00=12345678 SR=0", "PC=12345678 US=E04");
        CHECKS.sentence("0111: CCR (of a word), then PC are popped.");
        EDGE.does("4E77", "W.F00=FFFF L.F02=12345678 SR=2700", "SR=271F PC=12345678 SS=F06");
        EDGE.does("4E77", "W.F00=2700 L.F02=600 SR=251F", "SR=2500 PC=600 SS=F06");
        EDGE.does("4E77", "W.E00=2015 L.E02=600 SR=70A", "SR=715 PC=600 US=E06");
    }

    private static void jumps() {
        CHECKS.sentence("0100 1110 10ee eeee: PC is pushed, and becomes an address (control). 11: without pushing.");
        EDGE.does("4E90", "A0=12345678", "PC=12345678 L.EFC=402 SS=EFC");
        EDGE.does("4E97", "SS=F00", "PC=F00 L.EFC=402 SS=EFC");
        EDGE.does("4EB8 8000", "SR=201F", "PC=FFFF8000 L.EFC=404 SS=EFC");
        EDGE.does("4EB9 1234 5678", "SR=0", "PC=12345678 L.DFC=406 US=DFC");
        EDGE.does("4EBA 0000", "", "PC=402 L.EFC=404 SS=EFC");
        EDGE.does("4ED0", "A0=FFFFFFFE", "PC=FFFFFFFE");
        EDGE.does("4EF8 7FFE", "", "PC=7FFE");
        EDGE.does("4EF9 1234 5678", "", "PC=12345678");
        EDGE.does("4EFA FFFE", "", "PC=400");
        EDGE.does("4EF0 88FF", "A0=1001", "PC=2001");
    }

    private static void checks() {
        CHECKS.sentence("0100 rrr1 10ee eeee: a word (data): if Dr's word is below 0, N is 1, if it is above it, N "
            + "is 0 (both with signs): exception 6. "
            + "(All other flags stay, without it N too.)");
        EDGE.does("4181", "D0=0 D1=0 SR=201F", "");
        EDGE.does("4181", "D0=0 D1=0 SR=2000", "");
        EDGE.does("4181", "D0=5 D1=5 SR=201F", "");
        EDGE.does("4181", "D0=5 D1=FFFF0005", "");
        EDGE.does("4181", "D0=FFFF0005 D1=5", "");
        EDGE.does("4181", "D0=7FFF D1=7FFF", "");
        EDGE.does("4181", "D0=0 D1=7FFF", "");
        EDGE.raises(6, 0x402, "4181", "D0=6 D1=5 SR=201F", "SR=2017");
        EDGE.raises(6, 0x402, "4181", "D0=6 D1=5 SR=2000", "");
        EDGE.raises(6, 0x402, "4181", "D0=7FFF D1=7FFE SR=8", "SR=0");
        EDGE.raises(6, 0x402, "4181", "D0=FFFF D1=5 SR=2000", "SR=2008");
        EDGE.raises(6, 0x402, "4181", "D0=FFFF D1=5 SR=201F", "");
        EDGE.raises(6, 0x402, "4181", "D0=8000 D1=7FFF SR=2017", "SR=201F");
        EDGE.raises(6, 0x402, "4181", "D0=0 D1=FFFF SR=201F", "SR=2017");
        EDGE.raises(6, 0x402, "4181", "D0=0 D1=8000 SR=2008", "SR=2000");
        EDGE.raises(6, 0x402, "4181", "D0=FFFF D1=FFFF SR=2000", "SR=2008");
        EDGE.raises(6, 0x404, "41BC 0005", "D0=6", "");
        EDGE.raises(6, 0x402, "4198", "D0=6 W.C00=5", "A0=C02");
        EDGE.does("4198", "D0=5 W.C00=5", "A0=C02");
        EDGE.faults(0xC01, "4190", "A0=C01 D0=FFFF");
    }

    private static void countDown() {
        CHECKS.sentence("0101 cccc 1100 1yyy: if c does not hold: Dy's word becomes 1 less; "
            + "if it isn't -1 then, PC becomes the extension word's address and that word, extended.");
        EDGE.does("51C8 0010", "D0=12340002 SR=201F", "D0=12340001 PC=412");
        EDGE.does("51C8 0010", "D0=12340001", "D0=12340000 PC=412");
        EDGE.does("51C8 0010", "D0=12340000", "D0=1234FFFF");
        EDGE.does("51C8 0010", "D0=1234FFFF", "D0=1234FFFE PC=412");
        EDGE.does("51C8 0010", "D0=12348000", "D0=12347FFF PC=412");
        EDGE.does("51C8 7FFE", "D0=5", "D0=4 PC=8400");
        EDGE.does("51C8 8000", "D0=5", "D0=4 PC=FFFF8402");
        EDGE.does("51C8 0000", "D0=5", "D0=4 PC=402");
        EDGE.does("50C8 0010", "D0=0", "");
        EDGE.does("50C8 0010", "D0=5", "");
        EDGE.does("57C8 0010", "D0=5 SR=2004", "");
        EDGE.does("57C8 0010", "D0=5 SR=2000", "D0=4 PC=412");
        EDGE.does("56CF 0010", "D7=0 SR=2004", "D7=FFFF");
    }

    private static void byConditions() {
        CHECKS.sentence("0101 cccc 11ee eeee: a byte (data alterable) becomes 255, if c holds, else 0.");
        EDGE.does("50C0", "D0=12345600 SR=201F", "D0=123456FF");
        EDGE.does("51C0", "D0=123456FF SR=201F", "D0=12345600");
        EDGE.does("50D8", "", "B.C00=FF A0=C01");
        EDGE.does("50DF", "", "B.F00=FF SS=F02");
        EDGE.does("51E7", "B.EFE=FF", "B.EFE=0 SS=EFE");
        CHECKS.sentence("CONDITIONS: 0 always, 1 never; 2 C and Z are 0, 3 not so; 4 C 0, 5 C 1; 6 Z 0, 7 Z 1; "
            + "8 V 0, 9 V 1; 10 N 0, 11 N 1; 12 N is V, 13 not; 14 Z 0 and N is V, 15 not.");
        for (int c = 0; c < 16; c++) {
            for (int flags = 0; flags < 32; flags++) {
                boolean holds = holds(c, flags);
                String before = "D0=55 SR=" + Integer.toHexString(0x2000 | flags);
                EDGE.does(Integer.toHexString(0x50C0 | c << 8), before, holds ? "D0=FF" : "D0=0");
                EDGE.does(Integer.toHexString(0x50C8 | c << 8) + " 0010", before, holds ? "" : "D0=54 PC=412");
                if (c != 1) {
                    EDGE.does(Integer.toHexString(0x6010 | c << 8), before, holds ? "PC=412" : "");
                    EDGE.does(Integer.toHexString(0x6000 | c << 8) + " 0010", before, holds ? "PC=412" : "");
                }
            }
        }
    }

    private static boolean holds(int c, int flags) {
        int carry = flags & 1;
        int v = flags >>> 1 & 1;
        int z = flags >>> 2 & 1;
        int n = flags >>> 3 & 1;
        boolean[] all = {
            true, false, carry == 0 && z == 0, carry == 1 || z == 1, carry == 0, carry == 1, z == 0, z == 1,
            v == 0, v == 1, n == 0, n == 1, n == v, n != v, z == 0 && n == v, z == 1 || n != v,
        };
        return all[c];
    }

    private static void quick() {
        CHECKS.sentence("0101 rrrt ssee eeee: r (8 for 0) and the operand (t 0 sum, 1 difference: it less r; "
            + "alterable");
        for (int r = 0; r < 8; r++) {
            String due = Integer.toHexString(r == 0 ? 8 : r);
            EDGE.does(Integer.toHexString(0x5000 | r << 9), "D0=0", "D0=" + due);
            EDGE.does(Integer.toHexString(0x5080 | r << 9), "D0=0", "D0=" + due);
            EDGE.does(Integer.toHexString(0x5140 | r << 9), "D0=" + due, "D0=0 SR=2004");
        }
        EDGE.does("5000", "D0=FFFFFFF8", "D0=FFFFFF00 SR=2015");
        EDGE.does("5040", "D0=7FF8", "D0=8000 SR=200A");
        EDGE.does("5100", "D0=7", "D0=FF SR=2019");
        EDGE.does("5180", "D0=80000007", "D0=7FFFFFFF SR=2002");
        EDGE.does("521F", "B.F00=FF", "B.F00=0 SS=F02 SR=2015");
        CHECKS.sentence("with mode 1 the long Ay, no flags, s not 0).");
        EDGE.does("5048", "A0=FFFF SR=201F", "A0=10007");
        EDGE.does("5088", "A0=FFFFFFFF", "A0=7");
        EDGE.does("5148", "A0=10000 SR=2000", "A0=FFF8");
        EDGE.does("5388", "A0=0 SR=201F", "A0=FFFFFFFF");
        EDGE.does("504F", "SR=0", "US=E08");
        EDGE.refuses(4, "5008", "");
        EDGE.refuses(4, "5F0F", "");
    }

    private static void branches() {
        CHECKS.sentence("0110 cccc dddd dddd: d extended, or an extension word for 0: if c holds, "
            + "PC, as it was behind the instruction's first word, and that.");
        EDGE.does("6002", "", "PC=404");
        EDGE.does("607F", "", "PC=481");
        EDGE.does("6080", "", "PC=382");
        EDGE.does("60FE", "", "PC=400");
        EDGE.does("6000 0000", "", "PC=402");
        EDGE.does("6000 7FFE", "", "PC=8400");
        EDGE.does("6000 8000", "", "PC=FFFF8402");
        EDGE.does("6000 00FF", "", "PC=501");
        EDGE.does("607E", "PC=FFFFFFF0", "PC=70");
        EDGE.does("6710", "SR=2004", "PC=412");
        EDGE.does("6710", "SR=201B", "");
        EDGE.does("6700 0010", "SR=2004", "PC=412");
        EDGE.does("6700 0010", "SR=201B", "");
        EDGE.does("6600 FFF0", "SR=201B", "PC=3F2");
        CHECKS.sentence("c 0 holds always; c 1 too: PC behind all of it is pushed first.");
        EDGE.does("6010", "SR=201F", "PC=412");
        EDGE.does("6110", "SR=201F", "PC=412 L.EFC=402 SS=EFC");
        EDGE.does("6180", "SR=0", "PC=382 L.DFC=402 US=DFC");
        EDGE.does("6100 0010", "SR=2000", "PC=412 L.EFC=404 SS=EFC");
        EDGE.does("6100 0000", "", "PC=402 L.EFC=404 SS=EFC");
        EDGE.does("6100 8000", "", "PC=FFFF8402 L.EFC=404 SS=EFC");
    }

    private static void quickMoves() {
        CHECKS.sentence("0111 rrr0 dddd dddd: d extended to Dr (logic).");
        EDGE.does("7000", "SR=201B", "D0=0 SR=2014");
        EDGE.does("707F", "SR=201F", "D0=7F SR=2010");
        EDGE.does("7080", "SR=2007", "D0=FFFFFF80 SR=2008");
        EDGE.does("7EFF", "SR=2000", "D7=FFFFFFFF SR=2008");
        EDGE.refuses(4, "7100", "");
    }

    private static void directions() {
        CHECKS.sentence("1000 rrrt ssee eeee: t 0: Dr or the operand (data) to Dr; 1: the operand (memory alterable) "
            + "or Dr to it (logic).");
        EDGE.does("8050", "D0=F W.C00=F0", "D0=FF");
        EDGE.does("8150", "D0=F W.C00=F0", "W.C00=FF");
        EDGE.does("815F", "D0=F W.F00=8000", "W.F00=800F SS=F02 SR=2008");
        EDGE.does("C050", "D0=F0F W.C00=FF0", "D0=F00");
        EDGE.does("C150", "D0=F0F W.C00=FF0", "W.C00=F00");
        CHECKS.sentence("t 0: Dr less the operand, any; 1: it less Dr, memory alterable");
        EDGE.does("9050", "D0=5 W.C00=3", "D0=2");
        EDGE.does("9150", "D0=5 W.C00=3", "W.C00=FFFE SR=2019");
        EDGE.does("D050", "D0=5 W.C00=FFFB", "D0=0 SR=2015");
        EDGE.does("D150", "D0=5 W.C00=FFFB", "W.C00=0 SR=2015");
        CHECKS.sentence("1011 t 0: Dr compared with it (any); t 1: exclusive or (data alterable), logic.");
        EDGE.does("B050", "D0=5 W.C00=3", "");
        EDGE.does("B050", "D0=3 W.C00=5", "SR=2009");
        EDGE.does("B150", "D0=5 W.C00=5", "W.C00=0 SR=2004");
        EDGE.does("B140", "D0=8001 SR=201B", "D0=0 SR=2014");
        CHECKS.sentence("1001 rrrt 11ee eeee, 1101, 1011: Ar less, and, compared with a word, extended, or long (t "
            + "1) (any); the first two without flags.");
        EDGE.does("90C1", "A0=0 D1=12348000 SR=201F", "A0=8000");
        EDGE.does("91C1", "A0=0 D1=12348000 SR=201F", "A0=EDCB8000");
        EDGE.does("D0C1", "A0=0 D1=12347FFF SR=2000", "A0=7FFF");
        EDGE.does("D0C1", "A0=0 D1=12348000 SR=2000", "A0=FFFF8000");
        EDGE.does("D1C1", "A0=1 D1=7FFFFFFF SR=2000", "A0=80000000");
        EDGE.does("B0C1", "A0=0 D1=8000 SR=201F", "SR=2011");
        EDGE.does("B1C1", "A0=80000000 D1=1 SR=2000", "SR=2002");
        EDGE.does("D0C8", "A0=8000", "A0=0");
        EDGE.does("DCC1", "A6=5 D1=FFFF", "A6=4");
        EDGE.does("9DFC 0000 8000", "A6=8000", "A6=0");
    }

    private static void quotients() {
        CHECKS.sentence("1000 rrr0 11ee eeee: Dr by a word (data), without signs");
        EDGE.does("80C1", "D0=FFFF D1=1", "SR=2008");
        EDGE.does("80C1", "D0=FFFEFFFF D1=FFFF SR=2007", "SR=2008");
        EDGE.does("80C1", "D0=5 D1=7 SR=201B", "D0=50000 SR=2014");
        EDGE.does("80C1", "D0=0 D1=FFFF SR=2003", "SR=2004");
        EDGE.does("80C1", "D0=64 D1=FFFF0007", "D0=2000E");
        EDGE.does("80C1", "D0=80000000 D1=8001", "D0=2FFFE SR=2008");
        CHECKS.sentence("if what comes of it is no word, V is 1 (N and Z stay)");
        EDGE.does("80C1", "D0=10000 D1=1 SR=2000", "SR=2002");
        EDGE.does("80C1", "D0=10000 D1=1 SR=201D", "SR=201E");
        EDGE.does("80C1", "D0=FFFF0000 D1=FFFF SR=2001", "SR=2002");
        EDGE.does("80C1", "D0=FFFFFFFF D1=1 SR=2004", "SR=2006");
        EDGE.does("81C1", "D0=8000 D1=1 SR=2001", "SR=2002");
        EDGE.does("81C1", "D0=FFFF7FFF D1=1 SR=201D", "SR=201E");
        EDGE.does("81C1", "D0=FFFF8000 D1=FFFF SR=2008", "SR=200A");
        EDGE.does("81C1", "D0=80000000 D1=FFFF", "SR=2002");
        EDGE.does("81C1", "D0=80000000 D1=8000", "SR=2002");
        EDGE.does("81C1", "D0=80000000 D1=1", "SR=2002");
        EDGE.does("81C1", "D0=7FFFFFFF D1=8000", "SR=2002");
        EDGE.does("80D8", "D0=10000 W.C00=1", "A0=C02 SR=2002");
        CHECKS.sentence("if it is 0, exception 5 (N, Z, V stay)");
        for (String word : new String[] {"80C1", "81C1"}) {
            EDGE.raises(5, 0x402, word, "D0=5 D1=0 SR=201F", "SR=201E");
            EDGE.raises(5, 0x402, word, "D0=5 D1=0 SR=1", "SR=0");
            EDGE.raises(5, 0x402, word, "D0=0 D1=12340000 SR=200E", "");
            EDGE.raises(5, 0x402, word, "D0=80000000 D1=0 SR=2000", "");
        }
        EDGE.raises(5, 0x404, "80FC 0000", "", "");
        EDGE.raises(5, 0x402, "81D8", "W.C00=0", "A0=C02");
        EDGE.faults(0xC01, "80D0", "A0=C01");
    }

    private static void quotientsWithSigns() {
        CHECKS.sentence("1000 rrr1 11..: with signs, cut off");
        EDGE.does("81C1", "D0=7FFF D1=1", "");
        EDGE.does("81C1", "D0=FFFF8000 D1=1", "D0=8000 SR=2008");
        EDGE.does("81C1", "D0=8000 D1=FFFF", "SR=2008");
        EDGE.does("81C1", "D0=C0008000 D1=8000", "D0=7FFF");
        EDGE.does("81C1", "D0=40007FFF D1=8000", "D0=7FFF8000 SR=2008");
        EDGE.does("81C1", "D0=3FFFFFFF D1=7FFF SR=2002", "SR=2002");
        CHECKS.sentence("else it is Dr's word, the rest (with Dr's sign) the upper one, N, Z of the former and V 0");
        EDGE.does("81C1", "D0=7 D1=2 SR=200E", "D0=10003 SR=2000");
        EDGE.does("81C1", "D0=FFFFFFF9 D1=2", "D0=FFFFFFFD SR=2008");
        EDGE.does("81C1", "D0=7 D1=FFFE", "D0=1FFFD SR=2008");
        EDGE.does("81C1", "D0=FFFFFFF9 D1=FFFE", "D0=FFFF0003");
        EDGE.does("81C1", "D0=FFFFFFFF D1=2", "D0=FFFF0000 SR=2004");
        EDGE.does("81C1", "D0=1 D1=8000", "D0=10000 SR=2004");
        EDGE.does("81C1", "D0=0 D1=8000 SR=201F", "SR=2014");
        CHECKS.sentence("C is 0 in any case.");
        EDGE.does("80C1", "D0=6 D1=3 SR=2011", "D0=2 SR=2010");
        EDGE.does("81C1", "D0=6 D1=3 SR=2001", "D0=2 SR=2000");
        EDGE.does("80C1", "D0=FFFFFFFF D1=3 SR=2011", "SR=2012");
        EDGE.raises(5, 0x402, "81C1", "D1=0 SR=2011", "SR=2010");
    }

    private static void products() {
        CHECKS.sentence("1100 rrr0 11.., rrr1 11..: the product of Dr's word and a word (data), without signs, with "
            + "signs, to Dr (logic).");
        EDGE.does("C0C1", "D0=FFFF D1=FFFF SR=2017", "D0=FFFE0001 SR=2018");
        EDGE.does("C0C1", "D0=12340002 D1=56780003 SR=201F", "D0=6 SR=2010");
        EDGE.does("C0C1", "D0=12340000 D1=FFFF SR=201B", "D0=0 SR=2014");
        EDGE.does("C0C1", "D0=8000 D1=FFFF", "D0=7FFF8000");
        EDGE.does("C1C1", "D0=8000 D1=8000 SR=201F", "D0=40000000 SR=2010");
        EDGE.does("C1C1", "D0=FFFF D1=FFFF", "D0=1");
        EDGE.does("C1C1", "D0=FFFF D1=1", "D0=FFFFFFFF SR=2008");
        EDGE.does("C1C1", "D0=7FFF D1=8000", "D0=C0008000 SR=2008");
        EDGE.does("C1C1", "D0=7FFF D1=7FFF", "D0=3FFF0001");
        EDGE.does("C0D8", "D0=FFFF W.C00=8000", "D0=7FFF8000 A0=C02");
        EDGE.does("C1FC 8000", "D0=FFFF", "D0=8000");
        EDGE.does("C1C1", "D0=12340000 D1=FFFF SR=201B", "D0=0 SR=2014");
    }

    private static void pairs() {
        CHECKS.sentence("1000 rrr1 0000 myyy, 1100: DECIMAL bytes, m 0 of Dy and Dr, 1 at Ay, then Ar, as mode 4: "
            + "the first, difference of the second one and the first, with X; sum with X.");
        EDGE.does("8101", "D0=9 D1=4", "D0=5");
        EDGE.does("8308", "A0=C01 A1=D01 B.C00=4 B.D00=9", "A0=C00 A1=D00 B.D00=5");
        EDGE.does("8108", "A0=C02 B.C01=4 B.C00=9", "A0=C00 B.C00=5");
        EDGE.does("C101", "D0=9 D1=4", "D0=13");
        EDGE.does("C308", "A0=C01 A1=D01 B.C00=4 B.D00=9", "A0=C00 A1=D00 B.D00=13");
        EDGE.does("C30F", "A1=D01 B.EFE=4 B.D00=9", "SS=EFE A1=D00 B.D00=13");
        EDGE.does("C308", "A0=0 A1=1 B.FFF=4 B.0=9", "A0=FFFFFFFF A1=0 B.0=13");
        CHECKS.sentence("1001 rrr1 ss00 myyy, 1101: likewise of a size, difference and sum with X.");
        EDGE.does("9101", "D0=9 D1=4", "D0=5");
        EDGE.does("9388", "A0=C04 A1=D04 L.C00=4 L.D00=9 SR=2010", "A0=C00 A1=D00 L.D00=4 SR=2000");
        EDGE.does("D348", "A0=C02 A1=D02 W.C00=4 W.D00=FFFC SR=2014", "A0=C00 A1=D00 W.D00=1 SR=2011");
        EDGE.does("D108", "A0=C02 B.C01=4 B.C00=9", "A0=C00 B.C00=D");
        EDGE.does("9F0F", "SS=F04 B.F02=4 B.F00=9", "SS=F00 B.F00=5");
        EDGE.faults(0xC01 - 2, "D348", "A0=C01 A1=D01");
        EDGE.faults(0xD01 - 4, "D388", "A0=C04 A1=D01");
        CHECKS.sentence("1011 rrr1 ss00 1yyy: at Ay and Ar, as mode 3: the second one compared with the first.");
        EDGE.does("B308", "B.C00=5 B.C40=3", "A0=C01 A1=C41 SR=2009");
        EDGE.does("B348", "W.C00=3 W.C40=5", "A0=C02 A1=C42");
        EDGE.does("B388", "L.C00=5 L.C40=5 SR=2010", "A0=C04 A1=C44 SR=2014");
        EDGE.does("B188", "L.C00=5 L.C04=5", "A0=C08 SR=2004");
        EDGE.does("BF0F", "B.F00=5 B.F02=5", "SS=F04 SR=2004");
        EDGE.faults(0xC01, "B348", "A0=C01 A1=C41");
        EDGE.faults(0xC41, "B348", "A0=C00 A1=C41");
    }

    private static void exchanges() {
        CHECKS.sentence("1100 rrr1 0100 0yyy: Dr and Dy change places; 0100 1yyy Ar and Ay; 1000 1yyy Dr and Ay.");
        EDGE.does("C141", "D0=80000000 D1=0 SR=201F", "D0=0 D1=80000000");
        EDGE.does("C149", "A0=80000000 A1=0", "A0=0 A1=80000000");
        EDGE.does("C189", "D0=80000000 A1=0", "D0=0 A1=80000000");
        EDGE.does("CD49", "A6=12345678 A1=0", "A6=0 A1=12345678");
        EDGE.does("C140", "D0=5", "");
        EDGE.does("C148", "A0=5", "");
        EDGE.does("C14F", "A0=5", "A0=F00 SS=5");
        EDGE.does("C18F", "D0=5 SR=0", "D0=E00 US=5");
    }
}
