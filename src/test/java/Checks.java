import java.util.function.Consumer;

/** Counts the answers of a test that are not the ones that are due. */
final class Checks {
    private static final int SHOWN = 20;

    private int wrong = 0;
    private int seen = 0;

    void same(String what, long got, long due) {
        seen++;
        if (got != due) {
            wrong++;
            if (wrong <= SHOWN) {
                System.out.println(what + ": answered " + got + " (0x" + Long.toHexString(got) + "), due is "
                    + due + " (0x" + Long.toHexString(due) + ")");
            }
        }
    }

    /** On a board that has something in every part, the call must throw exactly this and change nothing. */
    void refused(String what, Class<? extends RuntimeException> due, Consumer<BoardCore> call) {
        BoardCore board = Board.used();
        int[] before = Board.seen(board);
        String got = "nothing";
        try {
            call.accept(board);
        } catch (RuntimeException e) {
            got = e.getClass().getName();
        }
        seen++;
        if (!got.equals(due.getName())) {
            wrong++;
            System.out.println(what + ": threw " + got + ", due is " + due.getName());
        }
        int[] after = Board.seen(board);
        for (int i = 0; i < before.length; i++) {
            same(what + " changed nothing, part " + i, after[i], before[i]);
        }
        board.step(1);
        same(what + ": the interrupt is still wanted", board.exceptions(28), 1);
    }

    void end() {
        System.out.println(seen + " answers looked at, " + wrong + " not as due");
        if (wrong != 0) {
            System.exit(1);
        }
    }
}
