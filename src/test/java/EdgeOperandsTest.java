/** Promise 8: the boundary cases that Terms names from NUMBERS to FLAGS, sentence by sentence. */
public final class EdgeOperandsTest {
    private static final Checks CHECKS = new Checks();
    private static final Edge EDGE = new Edge(CHECKS);

    private EdgeOperandsTest() {
    }

    public static void main(String[] args) {
        numbers();
        statusBits();
        twoStacks();
        pushAndPop();
        memoryGoesRound();
        highestByteFirst();
        addressErrors();
        oddPc();
        wordsOfAnInstruction();
        illegal();
        registerOperands();
        upAndDown();
        addressAndWord();
        indexes();
        modeSeven();
        classes();
        modeSevenBeyond();
        bytesOfAddressRegisters();
        sourceFirst();
        logicFlags();
        sumFlags();
        flagsWithX();
        comparing();
        addressesWithoutFlags();
        CHECKS.end();
    }

    private static void numbers() {
        CHECKS.sentence("the lowest part of a register is meant by byte and word");
        EDGE.does("1001", "D0=11223344 D1=55667788", "D0=11223388 SR=2008");
        EDGE.does("3001", "D0=11223344 D1=55667788", "D0=11227788");
        EDGE.does("2001", "D0=11223344 D1=55667788", "D0=55667788");
        EDGE.does("4200", "D0=FFFFFFFF", "D0=FFFFFF00 SR=2004");
        EDGE.does("4240", "D0=FFFFFFFF", "D0=FFFF0000 SR=2004");
        EDGE.does("4280", "D0=FFFFFFFF", "D0=0 SR=2004");
        EDGE.does("3008", "D0=11223344 A0=55667788", "D0=11227788");
        CHECKS.sentence("EXTENDED means with its highest bit as sign.");
        EDGE.does("307C 7FFF", "", "A0=7FFF");
        EDGE.does("307C 8000", "", "A0=FFFF8000");
        EDGE.does("4880", "D0=1234567F", "D0=1234007F");
        EDGE.does("4880", "D0=12345680", "D0=1234FF80 SR=2008");
        EDGE.does("48C0", "D0=12347FFF", "D0=7FFF");
        EDGE.does("48C0", "D0=12348000", "D0=FFFF8000 SR=2008");
        CHECKS.sentence("Sums and such are cut to the size.");
        EDGE.does("0600 0001", "D0=112233FF", "D0=11223300 SR=2015");
        EDGE.does("0640 0001", "D0=1122FFFF", "D0=11220000 SR=2015");
        EDGE.does("0680 0000 0001", "D0=FFFFFFFF", "D0=0 SR=2015");
        EDGE.does("0400 0001", "D0=11223300", "D0=112233FF SR=2019");
        EDGE.does("0440 0001", "D0=11220000", "D0=1122FFFF SR=2019");
        EDGE.does("0480 0000 0001", "D0=0", "D0=FFFFFFFF SR=2019");
        EDGE.does("D1C1", "A0=FFFFFFFF D1=2", "A0=1");
        EDGE.does("91C1", "A0=1 D1=2", "A0=FFFFFFFF");
    }

    private static void statusBits() {
        CHECKS.sentence("8 to 10 the MASK, 13 S, 15 T; all others are 0 always.");
        EDGE.does("46FC FFFF", "", "SR=A71F");
        EDGE.does("46FC 0000", "SR=271F", "SR=0");
        EDGE.does("007C FFFF", "", "SR=A71F");
        EDGE.does("007C 58E0", "", "");
        EDGE.does("0A7C 58E0", "SR=2715", "");
        EDGE.does("0A7C FFFF", "SR=2205", "SR=851A");
        EDGE.does("4E73", "W.F00=FFFF L.F02=600", "SR=A71F PC=600 SS=F06");
        EDGE.does("4E73", "W.F00=58E0 L.F02=600", "SR=0 PC=600 SS=F06");
        EDGE.does("4E77", "W.F00=FFFF L.F02=600", "SR=201F PC=600 SS=F06");
        EDGE.does("44FC FFFF", "", "SR=201F");
        EDGE.does("003C FFFF", "", "SR=201F");
        EDGE.does("0A3C FFFF", "", "SR=201F");
        EDGE.does("4E72 FFFF", "", "SR=A71F");
        EDGE.does("40C0", "SR=271F D0=12345678", "D0=1234271F");
        CHECKS.sentence("CCR is the low byte of SR.");
        EDGE.does("003C FF01", "SR=2704", "SR=2705");
        EDGE.does("023C 0014", "SR=271F", "SR=2714");
        EDGE.does("0A3C FF1F", "SR=2715", "SR=270A");
        EDGE.does("44FC 2700", "SR=051F", "SR=0500");
        EDGE.does("4E77", "SR=0500 W.E00=2713 L.E02=600", "SR=0513 PC=600 US=E06");
    }

    private static void twoStacks() {
        CHECKS.sentence("A7 is the stack pointer: there are two, one for S = 1 (supervisor), one for S = 0 (user); "
            + "A7 means that of S as it is.");
        EDGE.does("200F", "SR=2000", "D0=F00");
        EDGE.does("200F", "SR=0", "D0=E00");
        EDGE.does("2E40", "SR=2000 D0=650", "SS=650");
        EDGE.does("2E40", "SR=0 D0=650", "US=650");
        EDGE.does("4850", "SR=2000 A0=5", "SS=EFC L.EFC=5");
        EDGE.does("4850", "SR=0 A0=5", "US=DFC L.DFC=5");
        EDGE.does("4E75", "SR=0 L.E00=600 L.F00=700", "PC=600 US=E04");
        EDGE.does("46FC 0000", "", "SR=0");
        EDGE.does("46FC 2000", "SR=2700", "SR=2000");
    }

    private static void pushAndPop() {
        CHECKS.sentence("TO PUSH is A7 less by the size (2 or 4), then a write there; TO POP a read, then A7 more.");
        EDGE.does("4850", "A0=12345678 SS=F00", "SS=EFC L.EFC=12345678");
        EDGE.does("4850", "A0=12345678 SS=0", "SS=FFFFFFFC L.FFC=12345678");
        EDGE.does("4850", "A0=12345678 SS=2", "SS=FFFFFFFE L.FFE=12345678");
        EDGE.does("4E75", "SS=FFE L.FFE=600", "SS=1002 PC=600");
        EDGE.does("4E75", "SS=FFFFFFFC L.FFC=600", "SS=0 PC=600");
        EDGE.does("4E75", "SS=FFFFFFFE L.FFE=600", "SS=2 PC=600");
        EDGE.does("4E73", "SS=FFC W.FFC=2715 L.FFE=600", "SS=1002 PC=600 SR=2715");
        EDGE.raises(32, 0x402, "4E40", "SS=4", "");
        EDGE.raises(47, 0x402, "4E4F", "SS=80000000", "");
    }

    private static void memoryGoesRound() {
        CHECKS.sentence("MEMORY has 4096 bytes; an address counts modulo 4096");
        EDGE.does("3038 7C00", "W.C00=1234", "D0=0D001234");
        EDGE.does("3038 FC00", "W.C00=1234", "D0=0D001234");
        EDGE.does("3039 8000 0C00", "W.C00=1234", "D0=0D001234");
        EDGE.does("2038 0FFE", "L.FFE=12345678", "D0=12345678");
        EDGE.does("2038 FFFE", "L.FFE=12345678", "D0=12345678");
        EDGE.does("21C0 FFFE", "D0=12345678", "L.FFE=12345678");
        EDGE.does("31C0 FFFE", "D0=12345678", "W.FFE=5678");
        EDGE.does("11C0 0FFF", "D0=12345678", "B.FFF=78");
        EDGE.does("11C0 FFFF", "D0=12345678", "B.FFF=78");
        EDGE.does("11C0 1000", "D0=12345678", "B.0=78");
        EDGE.does("303C 4242", "PC=FFE", "D0=0D004242 PC=1002");
        EDGE.does("7005", "PC=FFFFFFFE", "D0=5 PC=0");
        EDGE.does("203C 1234 5678", "PC=7FFFFFFC", "D0=12345678 PC=80000002");
        EDGE.does("48D0 0003", "A0=FFC D0=11111111 D1=22222222", "L.FFC=11111111 L.0=22222222");
        EDGE.does("4CD8 000C", "A0=FFFFFFFC L.FFC=11111111 L.0=22222222", "D2=11111111 D3=22222222 A0=4");
        EDGE.does("01C8 0000", "A0=FFA D0=12345678", "B.FFA=12 B.FFC=34 B.FFE=56 B.0=78");
        EDGE.does("0148 0001", "A0=FFA B.FFB=12 B.FFD=34 B.FFF=56 B.1=78", "D0=12345678");
    }

    private static void highestByteFirst() {
        CHECKS.sentence("the highest byte of a word or long first.");
        EDGE.does("2080", "D0=12345678", "B.C00=12 B.C01=34 B.C02=56 B.C03=78");
        EDGE.does("3080", "D0=12345678", "B.C00=56 B.C01=78");
        EDGE.does("2010", "B.C00=12 B.C01=34 B.C02=56 B.C03=78", "D0=12345678");
        EDGE.does("3010", "B.C00=12 B.C01=34", "D0=0D001234");
    }

    private static void addressErrors() {
        CHECKS.sentence("A word or long at an odd address is the ADDRESS ERROR");
        String[] odd = {"1", "C01", "FFF", "FFFFFFFF", "80000001", "7FFFFFFF", "1001"};
        for (String a : odd) {
            int address = Integer.parseUnsignedInt(a, 16);
            EDGE.faults(address, "3010", "A0=" + a);
            EDGE.faults(address, "2010", "A0=" + a);
            EDGE.faults(address, "3080", "A0=" + a);
            EDGE.faults(address, "2080", "A0=" + a);
            EDGE.faults(address, "3018", "A0=" + a);
            EDGE.faults(address, "20C0", "A0=" + a);
            EDGE.faults(address - 2, "3020", "A0=" + a);
            EDGE.faults(address - 4, "2100", "A0=" + a);
            EDGE.faults(address, "4CD8 FFFF", "A0=" + a);
            EDGE.faults(address - 4, "48E0 FFFF", "A0=" + a);
            EDGE.faults(address, "4A50", "A0=" + a);
            EDGE.faults(address, "4250", "A0=" + a);
            EDGE.faults(address, "E0D0", "A0=" + a);
        }
        EDGE.faults(0xE01 - 4, "4850", "SR=0 US=E01");
        EDGE.faults(0xE01 - 4, "6110", "SR=0 US=E01");
        EDGE.faults(0xE01 - 4, "4E91", "SR=0 US=E01");
        EDGE.faults(0xE01 - 4, "4E50 0010", "SR=0 US=E01");
        EDGE.faults(0xE01, "4E75", "SR=0 US=E01");
        EDGE.faults(0xE01, "4E77", "SR=0 US=E01");
        EDGE.faults(0xC01, "4E58", "SR=0 A0=C01");
        // Bytes may lie anywhere.
        EDGE.does("1010", "A0=C01 B.C01=7F", "D0=0D00D07F");
        EDGE.does("10C0", "A0=FFFFFFFF D0=7F", "A0=0 B.FFF=7F");
        EDGE.does("4AD0", "A0=C01 B.C01=1", "B.C01=81");
        EDGE.does("08D0 0007", "A0=C01", "B.C01=80 SR=2004");
        EDGE.does("0188 0001", "A0=C00 D0=1234", "B.C01=12 B.C03=34");
        EDGE.does("50D0", "A0=C01", "B.C01=FF");
        EDGE.does("101F", "SS=F01 B.F01=7F", "D0=0D00D07F SS=F03");
        // An address alone is not read.
        EDGE.does("43D0", "A0=C01", "A1=C01");
        EDGE.does("4850", "A0=C01", "SS=EFC L.EFC=C01");
    }

    private static void oddPc() {
        CHECKS.sentence("an odd PC is that of the instruction that would begin there.");
        EDGE.does("4ED0", "A0=C01", "PC=C01");
        EDGE.does("4E90", "A0=C01", "PC=C01 SS=EFC L.EFC=402");
        EDGE.does("60FF", "", "PC=401");
        EDGE.does("6000 0001", "", "PC=403");
        EDGE.does("6101", "", "PC=403 SS=EFC L.EFC=402");
        EDGE.does("51C8 0001", "D0=5", "D0=4 PC=403");
        EDGE.does("4E75", "L.F00=601", "PC=601 SS=F04");
        EDGE.does("4E77", "W.F00=0 L.F02=601", "PC=601 SS=F06");
        EDGE.does("4E73", "W.F00=0 L.F02=601", "PC=601 SS=F06 SR=0");
        EDGE.does("6701", "", "");
        EDGE.faults(0x401, "4E71", "PC=401");
        EDGE.faults(1, "4E71", "PC=1");
        EDGE.faults(0xFFFFFFFF, "4E71", "PC=FFFFFFFF");
        EDGE.faults(0x401, "4E71", "PC=401 SR=871F");
        BoardCore b = Board.with(0x60FF);
        b.step(2);
        CHECKS.same("of the next one", b.exceptions(3), 1);
        CHECKS.same("PC pushed", b.read(0x3FC, 4), 0x401);
        CHECKS.same("word that could not be taken", b.read(0x3F8, 2), 0);
    }

    private static void wordsOfAnInstruction() {
        CHECKS.sentence("EXTENSION WORDS behind it are taken likewise, those of a source before those of a "
            + "destination");
        EDGE.does("33FC 1234 0000 0C10", "", "W.C10=1234");
        EDGE.does("31F8 0C10 0C20", "W.C10=1234", "W.C20=1234");
        EDGE.does("23F9 0000 0C10 0000 0C20", "L.C10=12345678", "L.C20=12345678");
        EDGE.does("3368 0010 0020", "A0=C00 A1=D00 W.C10=1234", "W.D20=1234");
        EDGE.does("0679 1234 0000 0C10", "W.C10=1", "W.C10=1235");
        EDGE.does("06B9 0001 0002 0000 0C10", "L.C10=10001", "L.C10=20003");
        EDGE.does("0839 0007 0000 0C10", "B.C10=7F", "SR=2004");
        EDGE.does("48F9 0001 0000 0C10", "D0=12345678", "L.C10=12345678");
        CHECKS.sentence("and all of them before anything is written.");
        EDGE.does("23FC 1111 2222 0000 0402", "", "L.402=11112222");
        EDGE.does("33FC 1111 0000 0404", "", "W.404=1111");
        EDGE.does("48F8 0003 0402", "D0=11111111 D1=22222222", "L.402=11111111 L.406=22222222");
        EDGE.does("4E50 FFF8", "SS=406 A0=12345678", "L.402=12345678 A0=402 SS=3FA");
        EDGE.does("6100 0100", "SS=406", "L.402=404 SS=402 PC=502");
        EDGE.does("4EB9 0000 0600", "SS=406", "L.402=406 SS=402 PC=600");
        EDGE.does("4879 0000 0600", "SS=406", "L.402=600 SS=402");
        EDGE.does("0678 0001 0402", "", "W.402=2");
        EDGE.does("08F8 0003 0403", "", "B.403=B SR=2004");
    }

    private static void illegal() {
        CHECKS.sentence("What fits nothing is ILLEGAL (exception 4); what begins with 1010 is exception 10, with "
            + "1111 it is 11.");
        String[] words = {
            "4AFC", "00BC", "02BC", "0ABC", "00C0", "02C0", "04C0", "06C0", "0AC0", "0CC0", "0E00", "0EC0", "0EFF", "083C", "08FC", "42C0", "4808",
            "4848", "49C0", "4AFA", "4AFF", "4C00", "4C7F", "4C80", "4C88", "4E00", "4E3F", "4E74", "4E78", "4E7F",
            "4100", "4140", "4B7F", "7100", "7FFF", "8140", "8180", "C180", "C1C8", "E8C0", "EFFF", "E0C0", "E0C8",
        };
        for (String word : words) {
            EDGE.refuses(4, word, "");
            EDGE.refuses(4, word, "SR=871F");
        }
        EDGE.refuses(10, "A000", "");
        EDGE.refuses(10, "AFFF", "SR=871F");
        EDGE.refuses(11, "F000", "");
        EDGE.refuses(11, "FFFF", "SR=871F");
    }

    private static void registerOperands() {
        CHECKS.sentence("OPERANDS by mode and register y: 0 Dy. 1 Ay. 2 at Ay.");
        EDGE.does("2007", "D7=12345678", "D0=12345678");
        EDGE.does("200E", "A6=12345678", "D0=12345678");
        EDGE.does("200F", "SS=12345678", "D0=12345678");
        EDGE.does("2016", "A6=C10 L.C10=12345678", "D0=12345678");
        EDGE.does("2017", "SS=C10 L.C10=12345678", "D0=12345678");
        EDGE.does("2017", "SR=0 US=C20 L.C20=12345678", "D0=12345678");
        EDGE.does("2010", "A0=0 L.0=12345678", "D0=12345678");
    }

    private static void upAndDown() {
        CHECKS.sentence("3 at Ay, which goes up by the size behind it (by 2 for a byte with A7).");
        EDGE.does("1018", "A0=C00 B.C00=7F", "D0=0D00D07F A0=C01");
        EDGE.does("101E", "A6=C00 B.C00=7F", "D0=0D00D07F A6=C01");
        EDGE.does("101F", "SS=F00 B.F00=7F", "D0=0D00D07F SS=F02");
        EDGE.does("101F", "SR=0 US=E00 B.E00=7F", "D0=0D00D07F US=E02");
        EDGE.does("301F", "SS=F00 W.F00=1234", "D0=0D001234 SS=F02");
        EDGE.does("201F", "SS=F00 L.F00=12345678", "D0=12345678 SS=F04");
        EDGE.does("1EC0", "SS=F00 D0=7F", "B.F00=7F SS=F02");
        EDGE.does("1018", "A0=FFFFFFFF B.FFF=7F", "D0=0D00D07F A0=0");
        EDGE.does("3018", "A0=FFFFFFFE W.FFE=1234", "D0=0D001234 A0=0");
        EDGE.does("2018", "A0=FFFFFFFE L.FFE=12345678", "D0=12345678 A0=2");
        EDGE.does("2018", "A0=7FFFFFFC L.FFC=12345678", "D0=12345678 A0=80000000");
        EDGE.does("4A1F", "SS=F00 B.F00=7F", "SS=F02");
        EDGE.does("BF0F", "SS=F00 B.F00=7F B.F02=7F", "SS=F04 SR=2004");
        CHECKS.sentence("4 Ay goes down by as much first, then at Ay.");
        EDGE.does("1020", "A0=C01 B.C00=7F", "D0=0D00D07F A0=C00");
        EDGE.does("1026", "A6=C01 B.C00=7F", "D0=0D00D07F A6=C00");
        EDGE.does("1027", "SS=F02 B.F00=7F B.F01=11", "D0=0D00D07F SS=F00");
        EDGE.does("1027", "SR=0 US=E02 B.E00=7F B.E01=11", "D0=0D00D07F US=E00");
        EDGE.does("1F00", "SS=F02 D0=7F", "B.F00=7F SS=F00");
        EDGE.does("3F00", "SS=F02 D0=7F", "W.F00=7F SS=F00");
        EDGE.does("2F00", "SS=F04 D0=7F", "L.F00=7F SS=F00");
        EDGE.does("1020", "A0=0 B.FFF=7F", "D0=0D00D07F A0=FFFFFFFF");
        EDGE.does("3020", "A0=0 W.FFE=1234", "D0=0D001234 A0=FFFFFFFE");
        EDGE.does("2020", "A0=2 L.FFE=12345678", "D0=12345678 A0=FFFFFFFE");
        EDGE.does("2020", "A0=80000000 L.FFC=12345678", "D0=12345678 A0=7FFFFFFC");
        EDGE.does("CF0F", "SS=F08 B.F06=9 B.F04=8", "B.F04=17 SS=F04");
        EDGE.does("DF0F", "SS=F08 B.F06=9 B.F04=8", "B.F04=11 SS=F04");
    }

    private static void addressAndWord() {
        CHECKS.sentence("5 at Ay and an extension word, extended.");
        EDGE.does("4BE8 0000", "A0=C00", "A5=C00");
        EDGE.does("4BE8 7FFF", "A0=C00", "A5=8BFF");
        EDGE.does("4BE8 8000", "A0=C00", "A5=FFFF8C00");
        EDGE.does("4BE8 FFFF", "A0=0", "A5=FFFFFFFF");
        EDGE.does("4BE8 0001", "A0=FFFFFFFF", "A5=0");
        EDGE.does("4BE8 0001", "A0=7FFFFFFF", "A5=80000000");
        EDGE.does("4BEF 0004", "SR=0", "A5=E04");
        EDGE.does("2028 FFFC", "A0=2 L.FFE=12345678", "D0=12345678");
    }

    private static void indexes() {
        CHECKS.sentence("6 at Ay, the low byte of an extension word, extended, and an index");
        EDGE.does("4BF0 007F", "A0=C00 D0=0", "A5=C7F");
        EDGE.does("4BF0 0080", "A0=C00 D0=0", "A5=B80");
        EDGE.does("4BF0 00FF", "A0=C00 D0=0", "A5=BFF");
        EDGE.does("4BF0 0700", "A0=C00 D0=0", "A5=C00");
        EDGE.does("4BF0 077F", "A0=C00 D0=1", "A5=C80");
        CHECKS.sentence("register D or A (its bit 15: 1 for A) of the number in bits 12 to 14");
        EDGE.does("4BF0 0800", "A0=C00 D0=12345678", "A5=12346278");
        EDGE.does("4BF0 7800", "A0=C00 D7=12345678", "A5=12346278");
        EDGE.does("4BF0 8800", "A0=C00", "A5=1800");
        EDGE.does("4BF0 E800", "A0=C00 A6=12345678", "A5=12346278");
        EDGE.does("4BF0 F800", "A0=C00 SS=100", "A5=D00");
        EDGE.does("4BF0 F800", "A0=C00 SR=0 US=200", "A5=E00");
        CHECKS.sentence("a long if bit 11 is 1, else its word, extended.");
        EDGE.does("4BF0 1000", "A0=C00 D1=12347FFF", "A5=8BFF");
        EDGE.does("4BF0 1000", "A0=C00 D1=12348000", "A5=FFFF8C00");
        EDGE.does("4BF0 1000", "A0=C00 D1=1234FFFF", "A5=BFF");
        EDGE.does("4BF0 1800", "A0=C00 D1=12348000", "A5=12348C00");
        EDGE.does("4BF0 1880", "A0=0 D1=80000000", "A5=7FFFFF80");
        EDGE.does("4BF0 9000", "A0=C00 A1=1234FFFE", "A5=BFE");
    }

    private static void modeSeven() {
        CHECKS.sentence("7: 0 at an extension word, extended; 1 at a long of two");
        EDGE.does("4BF8 0000", "", "A5=0");
        EDGE.does("4BF8 7FFF", "", "A5=7FFF");
        EDGE.does("4BF8 8000", "", "A5=FFFF8000");
        EDGE.does("4BF9 0000 8000", "", "A5=8000");
        EDGE.does("4BF9 FFFF FFFF", "", "A5=FFFFFFFF");
        EDGE.does("4BF9 1234 5678", "", "A5=12345678");
        CHECKS.sentence("2 as 5, 3 as 6 with the address of that extension word for Ay");
        EDGE.does("4BFA 0000", "", "A5=402");
        EDGE.does("4BFA 7FFF", "", "A5=8401");
        EDGE.does("4BFA 8000", "", "A5=FFFF8402");
        EDGE.does("4BFA 0002", "PC=FFFFFFFC", "A5=0 PC=0");
        EDGE.does("4BFB 0000", "D0=0", "A5=402");
        EDGE.does("4BFB 007F", "D0=8000", "A5=FFFF8481");
        EDGE.does("4BFB 0880", "D0=8000", "A5=8382");
        EDGE.does("083A 0003 0020", "B.424=8 B.422=0", "");
        EDGE.does("083B 0003 0020", "D0=0 B.424=8", "");
        EDGE.does("4CBA 0001 0020", "W.424=1234", "D0=1234");
        EDGE.does("33FA 0020 0000 0C10", "W.422=1234", "W.C10=1234");
        CHECKS.sentence("4 the operand is in an extension word (a byte in its low half) or two.");
        EDGE.does("103C FF7F", "", "D0=0D00D07F");
        EDGE.does("103C 0080", "", "D0=0D00D080 SR=2008");
        EDGE.does("103C FF00", "", "D0=0D00D000 SR=2004");
        EDGE.does("303C 8000", "", "D0=0D008000 SR=2008");
        EDGE.does("203C 8000 0000", "", "D0=80000000 SR=2008");
        EDGE.does("203C 0000 8000", "", "D0=8000");
        EDGE.does("013C FF01", "D0=0", "");
        EDGE.does("013C FF01", "D0=7", "SR=2004");
        EDGE.does("0600 FF01", "D0=1", "D0=2");
    }

    private static final String[] ALL_MODES = {"0", "8", "10", "18", "20", "28", "30", "38", "39", "3A", "3B", "3C"};

    /** The instruction takes exactly the operands of this class: a character for each mode, 1 if it is in. */
    private static void takes(String name, int word, String kinds) {
        for (int i = 0; i < ALL_MODES.length; i++) {
            int operand = Integer.parseInt(ALL_MODES[i], 16);
            for (int sr = 0; sr <= 0x2000; sr += 0x2000) {
                BoardCore b = Board.with(word | operand, 0x0002, 0x0C00, 0x0C00);
                b.put(8, 0xC00);
                b.put(0, 2);
                b.put(18, 0xE00);
                b.put(17, sr);
                b.step(1);
                String what = name + " " + Integer.toHexString(word | operand);
                CHECKS.same(what, b.exceptions(4), kinds.charAt(i) == '1' ? 0 : 1);
                CHECKS.same(what + ", PC pushed", kinds.charAt(i) == '1' ? 0x400 : b.read(0x3FC, 4), 0x400);
            }
        }
    }

    private static void classes() {
        CHECKS.sentence("CLASSES: ANY: all.");
        takes("move", 0x3200, "111111111111");
        takes("move to A", 0x2240, "111111111111");
        takes("sum", 0xD240, "111111111111");
        takes("difference", 0x9280, "111111111111");
        takes("compare", 0xB240, "111111111111");
        takes("compare A", 0xB3C0, "111111111111");
        CHECKS.sentence("DATA: not mode 1.");
        takes("or", 0x8240, "101111111111");
        takes("and", 0xC240, "101111111111");
        // With mode 1 these bits are those of bytes apart.
        takes("bit looked at", 0x0300, "111111111111");
        takes("to CCR", 0x44C0, "101111111111");
        takes("check", 0x4380, "101111111111");
        takes("product", 0xC2C0, "101111111111");
        takes("quotient", 0x83C0, "101111111111");
        CHECKS.sentence("0000 1000 ttee eeee: with the number in an extension word in front of the operand's (t 0: "
            + "data, but not the last of 7).");
        takes("bit of a number", 0x0800, "101111111110");
        CHECKS.sentence("MEMORY: not 0 and 1.");
        takes("shift", 0xE0C0, "001111111000");
        takes("or to memory", 0x8340, "001111111000");
        // With mode 1 these bits tell that registers change places.
        takes("and to memory", 0xC380, "011111111000");
        // With modes 0 and 1 these bits are sums and differences with X.
        takes("sum to memory", 0xD340, "111111111000");
        takes("difference to memory", 0x9340, "111111111000");
        CHECKS.sentence("CONTROL: modes 2, 5, 6, and 7 with 0 to 3.");
        takes("address", 0x43C0, "001001111110");
        takes("jump", 0x4EC0, "001001111110");
        takes("jump with push", 0x4E80, "001001111110");
        // With mode 0 these bits tell that words change places.
        takes("push of an address", 0x4840, "101001111110");
        CHECKS.sentence("from registers to memory (control alterable, upward in this order; or mode 4");
        // With mode 0 these bits tell that a byte or word is extended.
        takes("many to memory", 0x4880, "101011111000");
        CHECKS.sentence("or the second one from memory (control; or mode 3");
        takes("many from memory", 0x4C80, "001101111110");
        CHECKS.sentence("ALTERABLE besides: not 7 with 2 to 4.");
        takes("quick sum", 0x5240, "111111111000");
        takes("quick sum of a byte", 0x5200, "101111111000");
        takes("cleared", 0x4240, "101111111000");
        // With mode 1 these bits are those of bytes apart.
        takes("bit set", 0x03C0, "111111111000");
        takes("bit of a number turned", 0x0840, "101111111000");
        takes("bit of a number cleared", 0x0880, "101111111000");
        takes("bit of a number set", 0x08C0, "101111111000");
        // With the last of 7 these bits are those of SR, S only.
        takes("or with a number", 0x0040, "101111111001");
        takes("sum with a number", 0x0640, "101111111000");
        takes("compare with a number", 0x0C40, "101111111000");
        // With mode 1 these bits are those of a count.
        takes("byte by condition", 0x54C0, "111111111000");
        takes("SR to", 0x40C0, "101111111000");
        takes("decimal 0 less", 0x4800, "101111111000");
        takes("highest bit set", 0x4AC0, "101111111000");
        // With mode 1 these bits compare at Ay and Ar.
        takes("exclusive or", 0xB340, "111111111000");
        CHECKS.sentence("All data alterable.");
        int[] singles = {0x4000, 0x4200, 0x4400, 0x4600, 0x4A00};
        for (int word : singles) {
            for (int s = 0; s < 3; s++) {
                takes("single", word | s << 6, "101111111000");
            }
        }
        destinations();
        CHECKS.sentence("An operand out of its class is illegal (also where S only is told)");
        takes("to SR", 0x46C0, "101111111111");
        EDGE.refuses(4, "46C8", "SR=0");
        EDGE.refuses(4, "46C8", "SR=2000");
        EDGE.refuses(4, "46FD", "SR=0");
        EDGE.refuses(8, "46FC 2000", "SR=0");
        EDGE.refuses(8, "46C0", "SR=0");
    }

    private static void destinations() {
        CHECKS.sentence("the source (any) is put there (data alterable)");
        for (int i = 0; i < ALL_MODES.length; i++) {
            int operand = Integer.parseInt(ALL_MODES[i], 16);
            int word = 0x2000 | (operand & 7) << 9 | operand >>> 3 << 6;
            BoardCore b = Board.with(word, 0x0002, 0x0C00);
            b.put(8, 0xC00);
            b.step(1);
            // With mode 1 it is put to Ar.
            CHECKS.same("destination " + ALL_MODES[i], b.exceptions(4), i > 8 ? 1 : 0);
        }
    }

    private static void modeSevenBeyond() {
        CHECKS.sentence("so is any with mode 7 and 5 to 7");
        int[] words = {
            0x0100, 0x0140, 0x0800, 0x0880, 0x0040, 0x0C40, 0x1000, 0x2000, 0x3000, 0x2040, 0x40C0, 0x44C0, 0x46C0,
            0x4040, 0x4240, 0x4440, 0x4640, 0x4A40, 0x4800, 0x4840, 0x4880, 0x48C0, 0x4C80, 0x4AC0, 0x4E80, 0x4EC0, 0x4180, 0x41C0, 0x50C0, 0x5040,
            0x8040, 0x8140, 0x80C0, 0x81C0, 0x9040, 0x9140, 0x90C0, 0xB040, 0xB140, 0xB0C0, 0xC040, 0xC140, 0xC0C0, 0xC1C0,
            0xD040, 0xD140, 0xD1C0, 0xE0C0, 0xE7C0,
        };
        for (int word : words) {
            for (int y = 5; y < 8; y++) {
                String code = Integer.toHexString(word | 0x38 | y);
                EDGE.refuses(4, code, "");
                EDGE.refuses(4, code, "SR=1F");
            }
        }
        for (int y = 5; y < 8; y++) {
            EDGE.refuses(4, Integer.toHexString(0x31C0 | y << 9), "");
            EDGE.refuses(4, Integer.toHexString(0x11C0 | y << 9), "SR=0");
        }
    }

    private static void bytesOfAddressRegisters() {
        CHECKS.sentence("and a byte of mode 1.");
        String[] words = {"1008", "120F", "1040", "1E40", "D008", "9008", "B008", "5008", "510F", "1088"};
        for (String word : words) {
            EDGE.refuses(4, word, "");
        }
        EDGE.does("3008", "A0=12345678", "D0=0D005678");
        EDGE.does("D048", "A0=12345678 D0=1", "D0=5679");
        EDGE.does("5048", "A0=FFFFFFFF", "A0=7");
    }

    private static void sourceFirst() {
        CHECKS.sentence("A source is read, its Ay gone up or down, before the destination's address is reckoned.");
        EDGE.does("20D8", "A0=C00 L.C00=12345678", "L.C04=12345678 A0=C08");
        EDGE.does("3118", "A0=C00 W.C00=1234", "W.C00=1234");
        EDGE.does("30E0", "A0=C02 W.C00=1234 W.C02=0", "");
        EDGE.does("3120", "A0=C04 W.C02=1234", "W.C00=1234 A0=C00");
        EDGE.does("3158 0002", "A0=C00 W.C00=1234", "W.C04=1234 A0=C02");
        EDGE.does("3160 0002", "A0=C02 W.C00=1234", "W.C02=1234 A0=C00");
        EDGE.does("3398 8000", "A0=100 A1=B00 W.100=1234", "W.C02=1234 A0=102");
        EDGE.does("20C8", "A0=C00", "L.C00=C00 A0=C04");
        EDGE.does("2108", "A0=C04", "L.C00=C04 A0=C00");
        EDGE.does("2058", "A0=C00 L.C00=12345678", "A0=12345678");
        EDGE.does("D1D8", "A0=C00 L.C00=100", "A0=D04");
        EDGE.does("90E0", "A0=C02 W.C00=100", "A0=B00");
        EDGE.does("B1D8", "A0=C00 L.C00=C04", "A0=C04 SR=2004");
        EDGE.does("B108", "A0=C00 B.C00=3 B.C01=5", "A0=C02");
        EDGE.does("D108", "A0=C02 B.C01=3 B.C00=5", "A0=C00 B.C00=8");
        EDGE.faults(0xC01, "30C8", "A0=C01");
        EDGE.faults(0xD01, "3290", "A0=D01 A1=E01");
        EDGE.faults(0xE01, "3290", "A0=D00 A1=E01");
    }

    private static void logicFlags() {
        CHECKS.sentence("FLAGS, where nothing else is told: LOGIC: N is the result's highest bit, Z 1 if it is 0, V "
            + "and C 0, X stays.");
        String[] sizes = {"1001", "3001", "2001"};
        String[] tops = {"80", "8000", "80000000"};
        String[] below = {"7F", "7FFF", "7FFFFFFF"};
        for (int s = 0; s < 3; s++) {
            EDGE.does(sizes[s], "D0=0 D1=" + tops[s] + " SR=201F", "D0=" + tops[s] + " SR=2018");
            EDGE.does(sizes[s], "D0=0 D1=" + tops[s] + " SR=2000", "D0=" + tops[s] + " SR=2008");
            EDGE.does(sizes[s], "D0=0 D1=" + below[s] + " SR=201F", "D0=" + below[s] + " SR=2010");
            EDGE.does(sizes[s], "D0=1 D1=0 SR=201F", "D0=0 SR=2014");
            EDGE.does(sizes[s], "D0=1 D1=0 SR=2000", "D0=0 SR=2004");
        }
        EDGE.does("1001", "D0=1 D1=FFFFFF00 SR=201F", "D0=0 SR=2014");
        EDGE.does("3001", "D0=1 D1=FFFF0000 SR=201F", "D0=0 SR=2014");
        EDGE.does("8001", "D0=0 D1=FFFFFF00 SR=201F", "SR=2014");
        EDGE.does("C041", "D0=FF00 D1=FF SR=201F", "D0=0 SR=2014");
        EDGE.does("B380", "D0=80000001 D1=80000001 SR=201F", "D0=0 SR=2014");
        EDGE.does("B380", "D0=80000001 D1=1 SR=201F", "D0=80000000 SR=2018");
    }

    private static void sumFlags() {
        CHECKS.sentence("V 1 if the result is not that of the numbers with signs; "
            + "C and X 1 if it is not that of those without (a carry or borrow).");
        String[] zeros = {"", "00", "000000"};
        for (int s = 0; s < 3; s++) {
            String sum = Integer.toHexString(0xD001 | s << 6);
            String less = Integer.toHexString(0x9001 | s << 6);
            String o = zeros[s];
            String high = "80" + o;
            String most = "7F" + o.replace('0', 'F');
            String all = "FF" + o.replace('0', 'F');
            EDGE.does(sum, "D0=" + most + " D1=1 SR=2015", "D0=" + high + " SR=200A");
            EDGE.does(sum, "D0=" + all + " D1=1", "D0=0 SR=2015");
            EDGE.does(sum, "D0=" + high + " D1=" + high, "D0=0 SR=2017");
            EDGE.does(sum, "D0=" + high + " D1=" + all, "D0=" + most + " SR=2013");
            EDGE.does(sum, "D0=" + all + " D1=" + all, "D0=" + all.substring(1) + "E SR=2019");
            EDGE.does(sum, "D0=" + most + " D1=" + high, "D0=" + all + " SR=2008");
            EDGE.does(sum, "D0=0 D1=0 SR=201B", "SR=2004");
            EDGE.does(less, "D0=" + high + " D1=1", "D0=" + most + " SR=2002");
            EDGE.does(less, "D0=0 D1=1", "D0=" + all + " SR=2019");
            EDGE.does(less, "D0=0 D1=" + high, "D0=" + high + " SR=201B");
            EDGE.does(less, "D0=" + most + " D1=" + all, "D0=" + high + " SR=201B");
            EDGE.does(less, "D0=" + all + " D1=" + most, "D0=" + high + " SR=2008");
            EDGE.does(less, "D0=" + high + " D1=" + high + " SR=201B", "D0=0 SR=2004");
        }
    }

    private static void flagsWithX() {
        CHECKS.sentence("Sums and differences with X: Z stays, if the result is 0, else it is 0.");
        for (int s = 0; s < 3; s++) {
            String sum = Integer.toHexString(0xD101 | s << 6);
            String less = Integer.toHexString(0x9101 | s << 6);
            EDGE.does(sum, "D0=0 D1=0 SR=2004", "");
            EDGE.does(sum, "D0=0 D1=0 SR=2000", "");
            EDGE.does(sum, "D0=0 D1=0 SR=2014", "D0=1 SR=2000");
            EDGE.does(sum, "D0=1 D1=2 SR=2004", "D0=3 SR=2000");
            EDGE.does(less, "D0=5 D1=5 SR=2004", "D0=0 SR=2004");
            EDGE.does(less, "D0=5 D1=5 SR=2000", "D0=0 SR=2000");
            EDGE.does(less, "D0=5 D1=4 SR=2014", "D0=0 SR=2004");
            EDGE.does(less, "D0=5 D1=3 SR=2014", "D0=1 SR=2000");
        }
        EDGE.does("D101", "D0=FF D1=0 SR=2014", "D0=0 SR=2015");
        EDGE.does("D101", "D0=FF D1=FF SR=2010", "SR=2019");
        EDGE.does("D101", "D0=FE D1=0 SR=2010", "D0=FF SR=2008");
        EDGE.does("D101", "D0=7F D1=0 SR=2010", "D0=80 SR=200A");
        EDGE.does("D181", "D0=FFFFFFFF D1=0 SR=2010", "D0=0 SR=2011");
        EDGE.does("D181", "D0=7FFFFFFF D1=0 SR=2010", "D0=80000000 SR=200A");
        EDGE.does("9101", "D0=0 D1=FF SR=2014", "D0=0 SR=2015");
        EDGE.does("9101", "D0=80 D1=0 SR=2010", "D0=7F SR=2002");
        EDGE.does("9181", "D0=0 D1=FFFFFFFF SR=2010", "D0=0 SR=2011");
        EDGE.does("9181", "D0=80000000 D1=0 SR=2010", "D0=7FFFFFFF SR=2002");
        EDGE.does("9181", "D0=0 D1=7FFFFFFF SR=2010", "D0=80000000 SR=2019");
    }

    private static void comparing() {
        CHECKS.sentence("COMPARING is a difference that is not kept, X stays.");
        EDGE.does("B001", "D0=5 D1=5 SR=201B", "SR=2014");
        EDGE.does("B001", "D0=5 D1=6 SR=2000", "SR=2009");
        EDGE.does("B001", "D0=5 D1=6 SR=2010", "SR=2019");
        EDGE.does("B041", "D0=8000 D1=1", "SR=2002");
        EDGE.does("B081", "D0=0 D1=80000000", "SR=200B");
        EDGE.does("0C00 0001", "D0=0 SR=2010", "SR=2019");
        EDGE.does("0C50 0005", "A0=C00 W.C00=5", "SR=2004");
        EDGE.does("B348", "A0=C00 A1=D00 W.C00=1 W.D00=0", "A0=C02 A1=D02 SR=2009");
        EDGE.does("B0C1", "A0=FFFF8000 D1=8000", "SR=2004");
        EDGE.does("B0C1", "A0=8000 D1=8000", "SR=2001");
        EDGE.does("B1C1", "A0=8000 D1=8000 SR=2010", "SR=2014");
    }

    private static void addressesWithoutFlags() {
        CHECKS.sentence("Addresses change no flags.");
        String[] all = {"201F", "2000"};
        for (String sr : all) {
            EDGE.does("2041", "D1=0 SR=" + sr, "A0=0");
            EDGE.does("3041", "D1=8000 SR=" + sr, "A0=FFFF8000");
            EDGE.does("D0C1", "D1=FFFF A0=1 SR=" + sr, "A0=0");
            EDGE.does("91C1", "D1=2 A0=1 SR=" + sr, "A0=FFFFFFFF");
            EDGE.does("5248", "A0=FFFFFFFF SR=" + sr, "A0=0");
            EDGE.does("5388", "A0=0 SR=" + sr, "A0=FFFFFFFF");
            EDGE.does("41F8 0000", "SR=" + sr, "A0=0");
            EDGE.does("4850", "A0=0 SR=" + sr, "SS=EFC L.EFC=0");
            EDGE.does("4E50 0000", "A0=0 SR=" + sr, "L.EFC=0 A0=EFC SS=EFC");
            EDGE.does("C149", "A0=0 A1=5 SR=" + sr, "A0=5 A1=0");
        }
    }
}
