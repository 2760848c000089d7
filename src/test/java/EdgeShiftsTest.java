/** Promise 8: the boundary cases that Terms names for shifts and for decimal numbers, sentence by sentence. */
public final class EdgeShiftsTest {
    private static final Checks CHECKS = new Checks();
    private static final Edge EDGE = new Edge(CHECKS);

    private EdgeShiftsTest() {
    }

    public static void main(String[] args) {
        eightForZero();
        moduloSixtyFour();
        kinds();
        round();
        inMemory();
        lastBit();
        byZero();
        overflow();
        signAndZero();
        decimalDifferences();
        decimalSums();
        decimalFlags();
        CHECKS.end();
    }

    private static void eightForZero() {
        CHECKS.sentence("i 0 by r (8 for 0), 1 by Dr modulo 64");
        EDGE.does("E148", "D0=1", "D0=100");
        EDGE.does("E348", "D0=1", "D0=2");
        EDGE.does("E549", "D1=1", "D1=4");
        EDGE.does("EF48", "D0=1", "D0=80");
        EDGE.does("E048", "D0=8000", "D0=80");
        EDGE.does("EE48", "D0=8000", "D0=100");
        EDGE.does("E108", "D0=12345601", "D0=12345600 SR=2015");
        EDGE.does("E000", "D0=12345680", "D0=123456FF SR=2019");
        EDGE.does("E158", "D0=12340180", "D0=12348001 SR=2009");
        EDGE.does("E118", "D0=123456A5 SR=2010", "SR=2019");
        EDGE.does("E190", "D0=1 SR=2010", "D0=180 SR=2000");
    }

    private static void moduloSixtyFour() {
        CHECKS.sentence("1 by Dr modulo 64");
        EDGE.does("E3A8", "D0=1 D1=1", "D0=2");
        EDGE.does("E3A8", "D0=1 D1=1F", "D0=80000000 SR=2008");
        EDGE.does("E3A8", "D0=1 D1=20", "D0=0 SR=2015");
        EDGE.does("E3A8", "D0=FFFFFFFF D1=21", "D0=0 SR=2004");
        EDGE.does("E3A8", "D0=FFFFFFFF D1=3F", "D0=0 SR=2004");
        EDGE.does("E3A8", "D0=1 D1=40 SR=2011", "SR=2010");
        EDGE.does("E3A8", "D0=1 D1=41", "D0=2");
        EDGE.does("E3A8", "D0=1 D1=FFFFFFC0", "");
        EDGE.does("E3A8", "D0=1 D1=FFFFFFC4", "D0=10");
        EDGE.does("E2A8", "D0=80000000 D1=80000001", "D0=40000000");
        EDGE.does("E328", "D0=1 D1=8", "D0=0 SR=2015");
        EDGE.does("E328", "D0=FF D1=9", "D0=0 SR=2004");
        EDGE.does("E328", "D0=FF D1=48", "D0=0 SR=2015");
        EDGE.does("E368", "D0=1 D1=10", "D0=0 SR=2015");
        EDGE.does("E368", "D0=FFFF D1=11", "D0=0 SR=2004");
        // The register that tells how often may be the one that is shifted.
        EDGE.does("E1A8", "D0=4", "D0=40");
        EDGE.does("E0A8", "D0=4", "D0=0 SR=2004");
    }

    private static void kinds() {
        CHECKS.sentence("t 0 with its sign coming in at the right shift, 1 with 0");
        EDGE.does("E200", "D0=80", "D0=C0 SR=2008");
        EDGE.does("E200", "D0=7F", "D0=3F SR=2011");
        EDGE.does("E208", "D0=80", "D0=40");
        EDGE.does("E208", "D0=1", "D0=0 SR=2015");
        EDGE.does("E220", "D0=80 D1=7", "D0=FF SR=2008");
        EDGE.does("E220", "D0=80 D1=8", "D0=FF SR=2019");
        EDGE.does("E220", "D0=80 D1=3F", "D0=FF SR=2019");
        EDGE.does("E220", "D0=7F D1=8 SR=2010", "D0=0 SR=2004");
        EDGE.does("E2A0", "D0=80000000 D1=1F", "D0=FFFFFFFF SR=2008");
        EDGE.does("E2A0", "D0=80000000 D1=20", "D0=FFFFFFFF SR=2019");
        EDGE.does("E240", "D0=12348000", "D0=1234C000 SR=2008");
        EDGE.does("E300", "D0=1234563F", "D0=1234567E");
        CHECKS.sentence("2 through X (X is one bit more)");
        EDGE.does("E310", "D0=80 SR=2000", "D0=0 SR=2015");
        EDGE.does("E310", "D0=80 SR=2010", "D0=1 SR=2011");
        EDGE.does("E310", "D0=0 SR=2010", "D0=1 SR=2000");
        EDGE.does("E210", "D0=1 SR=2000", "D0=0 SR=2015");
        EDGE.does("E210", "D0=1 SR=2010", "D0=80 SR=2019");
        EDGE.does("E210", "D0=0 SR=2010", "D0=80 SR=2008");
        EDGE.does("E330", "D0=A5 D1=9 SR=2010", "SR=2019");
        EDGE.does("E330", "D0=A5 D1=9 SR=2000", "SR=2008");
        EDGE.does("E330", "D0=A5 D1=8 SR=2000", "D0=52 SR=2011");
        EDGE.does("E370", "D0=8001 D1=11 SR=2010", "SR=2019");
        EDGE.does("E3B0", "D0=80000001 D1=21 SR=2010", "SR=2019");
        EDGE.does("E2B0", "D0=80000001 D1=21 SR=2000", "SR=2008");
        EDGE.does("E3B0", "D0=1 D1=20 SR=2000", "D0=0 SR=2015");
    }

    private static void round() {
        CHECKS.sentence("3 round (bit by bit, 63 times at most).");
        EDGE.does("E318", "D0=80 SR=2010", "D0=1 SR=2011");
        EDGE.does("E318", "D0=40 SR=2000", "D0=80 SR=2008");
        EDGE.does("E218", "D0=1 SR=2000", "D0=80 SR=2009");
        EDGE.does("E218", "D0=2 SR=2010", "D0=1 SR=2010");
        EDGE.does("E338", "D0=1 D1=3F", "D0=80 SR=2008");
        EDGE.does("E238", "D0=1 D1=3F", "D0=2");
        EDGE.does("E338", "D0=81 D1=8", "SR=2009");
        EDGE.does("E3B8", "D0=80000001 D1=20 SR=2010", "SR=2019");
        EDGE.does("E2B8", "D0=80000001 D1=20 SR=2000", "SR=2009");
        EDGE.does("E3B8", "D0=80000001 D1=3F", "D0=C0000000 SR=2008");
        EDGE.does("E3B8", "D0=80000001 D1=40", "SR=2008");
        EDGE.does("E378", "D0=8001 D1=10", "SR=2009");
    }

    private static void inMemory() {
        CHECKS.sentence("1110 0ttd 11ee eeee: a word (memory alterable) by one.");
        EDGE.does("E1D0", "W.C00=8000", "W.C00=0 SR=2017");
        EDGE.does("E1D0", "W.C00=4000", "W.C00=8000 SR=200A");
        EDGE.does("E0D0", "W.C00=8001", "W.C00=C000 SR=2019");
        EDGE.does("E3D0", "W.C00=4000", "W.C00=8000 SR=2008");
        EDGE.does("E2D0", "W.C00=1", "W.C00=0 SR=2015");
        EDGE.does("E5D0", "W.C00=8000 SR=2010", "W.C00=1 SR=2011");
        EDGE.does("E4D0", "W.C00=0 SR=2010", "W.C00=8000 SR=2008");
        EDGE.does("E7D0", "W.C00=8000 SR=2010", "W.C00=1 SR=2011");
        EDGE.does("E6D0", "W.C00=1 SR=2000", "W.C00=8000 SR=2009");
        EDGE.does("E3DF", "W.F00=1", "W.F00=2 SS=F02");
        EDGE.does("E3E0", "A0=0 W.FFE=1", "W.FFE=2 A0=FFFFFFFE");
        EDGE.faults(0xC01, "E3D0", "A0=C01");
        EDGE.refuses(4, "E8D0", "");
        EDGE.refuses(4, "EFF8", "");
        EDGE.refuses(4, "E0C0", "");
    }

    private static void lastBit() {
        CHECKS.sentence("C is the last bit that went out (with t 2 X), 0 for a shift by 0 (with t 2 X)");
        EDGE.does("E508", "D0=80", "D0=0 SR=2004");
        EDGE.does("E508", "D0=40", "D0=0 SR=2015");
        EDGE.does("E408", "D0=1", "D0=0 SR=2004");
        EDGE.does("E408", "D0=2", "D0=0 SR=2015");
        EDGE.does("E518", "D0=40 SR=2000", "D0=1 SR=2001");
        EDGE.does("E510", "D0=40 SR=2000", "D0=0 SR=2015");
        for (String word : new String[] {"E320", "E220", "E328", "E228", "E338", "E238"}) {
            EDGE.does(word, "D0=1 D1=0 SR=2011", "SR=2010");
            EDGE.does(word, "D0=1 D1=0 SR=2001", "SR=2000");
            EDGE.does(word, "D0=1 D1=40 SR=2001", "SR=2000");
        }
        for (String word : new String[] {"E330", "E230"}) {
            EDGE.does(word, "D0=1 D1=0 SR=2010", "SR=2011");
            EDGE.does(word, "D0=1 D1=0 SR=2001", "SR=2000");
            EDGE.does(word, "D0=1 D1=40 SR=2010", "SR=2011");
        }
    }

    private static void byZero() {
        CHECKS.sentence("X too with t 0, 1 and 2, but for 0");
        EDGE.does("E328", "D0=80 D1=1 SR=2000", "D0=0 SR=2015");
        EDGE.does("E328", "D0=40 D1=1 SR=2010", "D0=80 SR=2008");
        EDGE.does("E328", "D0=40 D1=0 SR=2010", "");
        EDGE.does("E328", "D0=40 D1=0 SR=2000", "");
        EDGE.does("E320", "D0=40 D1=0 SR=2010", "");
        EDGE.does("E330", "D0=40 D1=0 SR=2010", "SR=2011");
        EDGE.does("E338", "D0=80 D1=1 SR=2000", "D0=1 SR=2001");
        EDGE.does("E338", "D0=40 D1=1 SR=2010", "D0=80 SR=2018");
    }

    private static void overflow() {
        CHECKS.sentence("V 1 if, with t 0 and d 1, the highest bit changed at any time, else 0");
        EDGE.does("E300", "D0=40", "D0=80 SR=200A");
        EDGE.does("E300", "D0=80", "D0=0 SR=2017");
        EDGE.does("E300", "D0=C0 SR=2002", "D0=80 SR=2019");
        EDGE.does("E300", "D0=3F SR=2002", "D0=7E SR=2000");
        EDGE.does("E500", "D0=A0", "D0=80 SR=200A");
        EDGE.does("E500", "D0=40", "D0=0 SR=2017");
        EDGE.does("E500", "D0=60", "D0=80 SR=201B");
        EDGE.does("E500", "D0=E0", "D0=80 SR=2019");
        EDGE.does("E3A0", "D0=FFFFFFFF D1=1F", "D0=80000000 SR=2019");
        EDGE.does("E3A0", "D0=FFFFFFFF D1=20", "D0=0 SR=2017");
        EDGE.does("E3A0", "D0=FFFFFFFF D1=21", "D0=0 SR=2006");
        EDGE.does("E3A0", "D0=1 D1=3F", "D0=0 SR=2006");
        EDGE.does("E3A0", "D0=0 D1=3F", "SR=2004");
        EDGE.does("E3A0", "D0=40000000 D1=0 SR=2002", "SR=2000");
        EDGE.does("E340", "D0=4000", "D0=8000 SR=200A");
        EDGE.does("E380", "D0=40000000", "D0=80000000 SR=200A");
        // Not with another kind or to the right.
        EDGE.does("E308", "D0=40 SR=2002", "D0=80 SR=2008");
        EDGE.does("E310", "D0=40 SR=2002", "D0=80 SR=2008");
        EDGE.does("E318", "D0=40 SR=2002", "D0=80 SR=2008");
        EDGE.does("E208", "D0=80 SR=2002", "D0=40 SR=2000");
        EDGE.does("E218", "D0=1 SR=2002", "D0=80 SR=2009");
    }

    private static void signAndZero() {
        CHECKS.sentence("but for 0; V 1 if, with t 0 and d 1, the highest bit changed at any time, else 0; N, Z.");
        EDGE.does("E328", "D0=FFFFFF00 D1=0 SR=200B", "SR=2004");
        EDGE.does("E368", "D0=FFFF0000 D1=0 SR=200B", "SR=2004");
        EDGE.does("E328", "D0=80 D1=0 SR=2007", "SR=2008");
        EDGE.does("E368", "D0=8000 D1=0 SR=2007", "SR=2008");
        EDGE.does("E3A8", "D0=80000000 D1=0 SR=2007", "SR=2008");
        EDGE.does("E3A8", "D0=7FFFFFFF D1=0 SR=200F", "SR=2000");
    }

    private static void decimalDifferences() {
        CHECKS.sentence("v is the low halves' difference, less X; if it is below 0, it is 6 less");
        EDGE.does("8101", "D0=5 D1=5", "D0=0");
        EDGE.does("8101", "D0=15 D1=5 SR=2010", "D0=9 SR=2000");
        EDGE.does("8101", "D0=10 D1=1", "D0=9");
        EDGE.does("8101", "D0=10 D1=0 SR=2010", "D0=9 SR=2000");
        EDGE.does("8101", "D0=F D1=0", "D0=F SR=2000");
        CHECKS.sentence("C and X are 1 if v is below 0, then v is 0x60 less; cut to a byte.");
        EDGE.does("8101", "D0=0 D1=1", "D0=99 SR=2011");
        EDGE.does("8101", "D0=0 D1=0 SR=2010", "D0=99 SR=2011");
        EDGE.does("8101", "D0=20 D1=1A", "D0=0");
        EDGE.does("8101", "D0=20 D1=1B", "D0=9F SR=2011");
        EDGE.does("8101", "D0=0 D1=FF SR=2010", "D0=9A SR=2011");
        EDGE.does("8101", "D0=0 D1=99", "D0=1 SR=2011");
        EDGE.does("8101", "D0=99 D1=99", "D0=0 SR=2000");
        EDGE.does("8101", "D0=99 D1=99 SR=2010", "D0=99 SR=2011");
        EDGE.does("8101", "D0=0 D1=10", "D0=90 SR=2011");
        EDGE.does("8101", "D0=12345600 D1=FFFFFF01", "D0=12345699 SR=2011");
    }

    private static void decimalSums() {
        CHECKS.sentence("Sum: v is the low halves' sum, and X; if it is above 9, 6 more");
        EDGE.does("C101", "D0=4 D1=5", "D0=9");
        EDGE.does("C101", "D0=5 D1=5", "D0=10");
        EDGE.does("C101", "D0=4 D1=5 SR=2010", "D0=10 SR=2000");
        EDGE.does("C101", "D0=9 D1=9 SR=2010", "D0=19 SR=2000");
        EDGE.does("C101", "D0=F D1=F", "D0=24");
        EDGE.does("C101", "D0=F D1=F SR=2010", "D0=25 SR=2000");
        CHECKS.sentence("C and X are 1 if v is above 0x9F, then v is 0x60 more; cut.");
        EDGE.does("C101", "D0=90 D1=9", "D0=99");
        EDGE.does("C101", "D0=90 D1=10", "D0=0 SR=2011");
        EDGE.does("C101", "D0=99 D1=0 SR=2010", "D0=0 SR=2011");
        EDGE.does("C101", "D0=8F D1=A", "D0=9F");
        EDGE.does("C101", "D0=8F D1=B", "D0=0 SR=2011");
        EDGE.does("C101", "D0=99 D1=99 SR=2010", "D0=99 SR=2011");
        EDGE.does("C101", "D0=FF D1=FF SR=2010", "D0=65 SR=2011");
        EDGE.does("C101", "D0=12345699 D1=FFFFFF01", "D0=12345600 SR=2011");
    }

    private static void decimalFlags() {
        CHECKS.sentence("Z stays, if the result is 0, else it is 0; N and V stay.");
        EDGE.does("C101", "D0=0 D1=0 SR=2004", "");
        EDGE.does("C101", "D0=0 D1=0 SR=2000", "");
        EDGE.does("C101", "D0=99 D1=1 SR=2004", "D0=0 SR=2015");
        EDGE.does("C101", "D0=99 D1=1 SR=2000", "D0=0 SR=2011");
        EDGE.does("C101", "D0=0 D1=1 SR=2004", "D0=1 SR=2000");
        EDGE.does("C101", "D0=0 D1=1 SR=200E", "D0=1 SR=200A");
        EDGE.does("C101", "D0=79 D1=1 SR=2000", "D0=80");
        EDGE.does("C101", "D0=79 D1=1 SR=2011", "D0=81 SR=2000");
        EDGE.does("8101", "D0=5 D1=5 SR=2004", "D0=0 SR=2004");
        EDGE.does("8101", "D0=5 D1=5 SR=2000", "D0=0 SR=2000");
        EDGE.does("8101", "D0=5 D1=4 SR=2004", "D0=1 SR=2000");
        EDGE.does("8101", "D0=0 D1=1 SR=200A", "D0=99 SR=201B");
        EDGE.does("8101", "D0=0 D1=1 SR=2000", "D0=99 SR=2011");
        EDGE.does("8101", "D0=5 D1=4 SR=2001", "D0=1 SR=2000");
    }
}
