/** Counts the answers of a test that are not the ones that are due. */
final class Checks {
    private int wrong = 0;
    private int seen = 0;

    /** A call that may throw. */
    interface Call {
        void make();
    }

    void same(String what, long got, long due) {
        seen++;
        if (got != due) {
            wrong++;
            if (wrong <= 20) {
                System.out.println(what + ": answered " + got + " (0x" + Long.toHexString(got) + "), due is "
                    + due + " (0x" + Long.toHexString(due) + ")");
            }
        }
    }

    /** The call must throw exactly this exception and change nothing that the object can tell. */
    void refused(String what, BoardCore board, Class<? extends RuntimeException> due, Call call) {
        seen++;
        int[] before = Board.all(board);
        String got = "nothing";
        try {
            call.make();
        } catch (RuntimeException e) {
            got = e.getClass().getName();
        }
        if (!got.equals(due.getName())) {
            wrong++;
            System.out.println(what + ": threw " + got + ", due is " + due.getName());
        }
        int[] after = Board.all(board);
        for (int i = 0; i < before.length; i++) {
            same(what + " changed nothing, part " + i, after[i], before[i]);
        }
    }

    void end() {
        System.out.println(seen + " answers looked at, " + wrong + " not as due");
        if (wrong != 0) {
            System.exit(1);
        }
    }
}
