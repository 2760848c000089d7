import java.util.function.Consumer;

/** Counts the answers of a test that are not the ones that are due. */
final class Checks {
    private static final int SHOWN = 20;

    private int wrong = 0;
    private int seen = 0;
    private String sentence = "";
    private int seenBefore = 0;

    /** The document's words to which the checks from here on belong; each of them must have some. */
    void sentence(String text) {
        endSentence();
        sentence = text;
        seenBefore = seen;
    }

    private void endSentence() {
        if (!sentence.isEmpty() && seen == seenBefore) {
            tell("this sentence has no check of its own");
        }
        sentence = "";
    }

    private void tell(String what) {
        wrong++;
        if (wrong <= SHOWN) {
            System.out.println(sentence.isEmpty() ? what : "\"" + sentence + "\" " + what);
        }
    }

    void same(String what, long got, long due) {
        seen++;
        if (got != due) {
            tell(what + ": answered " + got + " (0x" + Long.toHexString(got) + "), due is "
                + due + " (0x" + Long.toHexString(due) + ")");
        }
    }

    /** The call must throw exactly this, on a board that goes on, on one that waits, on one that is halted. */
    void refused(String what, Class<? extends RuntimeException> due, Consumer<BoardCore> call) {
        BoardCore board = Board.used();
        refusedBy(board, what, due, call);
        board.step(1);
        same(what + ": the interrupt is still wanted", board.exceptions(28), 1);
        refusedBy(Board.waiting(), what + ", waiting", due, call);
        refusedBy(Board.halted(), what + ", halted", due, call);
    }

    private void refusedBy(BoardCore board, String what, Class<? extends RuntimeException> due, Consumer<BoardCore> call) {
        int[] before = Board.seen(board);
        String got = "nothing";
        try {
            call.accept(board);
        } catch (RuntimeException e) {
            got = e.getClass().getName();
        }
        seen++;
        if (!got.equals(due.getName())) {
            tell(what + ": threw " + got + ", due is " + due.getName());
        }
        int[] after = Board.seen(board);
        for (int i = 0; i < before.length; i++) {
            same(what + " changed nothing, part " + i, after[i], before[i]);
        }
    }

    void end() {
        endSentence();
        System.out.println(seen + " answers looked at, " + wrong + " not as due");
        if (wrong != 0) {
            System.exit(1);
        }
    }
}
