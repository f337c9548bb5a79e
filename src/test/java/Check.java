import java.util.NoSuchElementException;

/** Compares answers with those that are due, tells the wrong ones, and ends a test by its count. */
final class Check {
    static final Class<? extends RuntimeException> BAD = IllegalArgumentException.class;
    static final Class<? extends RuntimeException> FULL = IndexOutOfBoundsException.class;
    static final Class<? extends RuntimeException> REFUSED = IllegalStateException.class;
    static final Class<? extends RuntimeException> MISSING = NoSuchElementException.class;

    private int checks = 0;
    private int wrong = 0;
    private String sentence = "";

    interface Call {
        Object answer();
    }

    /** What follows is a test of these words of the document. */
    void sentence(String where, String words) {
        sentence = where + " '" + words + "': ";
    }

    void due(String what, long got, long want) {
        same(what, Long.toString(got), Long.toString(want));
    }

    void same(String what, String got, String want) {
        checks++;
        if (!got.equals(want)) {
            wrong++;
            System.out.println(sentence + what + ": answered " + got + ", due is " + want);
        }
    }

    /** The call throws just this class, and every count of the shelf stays as it was. */
    void refuses(String what, Class<? extends RuntimeException> want, RevisionShelf shelf, Call call) {
        String before = counts(shelf);
        same(what, answerOf(call), thrown(want));
        same(what + ", counts behind it", counts(shelf), before);
    }

    void refuses(String what, Class<? extends RuntimeException> want, RevisionShelf shelf, Runnable call) {
        refuses(what, want, shelf, () -> {
            call.run();
            return "nothing";
        });
    }

    static String answerOf(Call call) {
        try {
            return String.valueOf(call.answer());
        } catch (RuntimeException e) {
            return thrown(e.getClass());
        }
    }

    static String thrown(Class<? extends RuntimeException> exception) {
        return "throws." + exception.getSimpleName();
    }

    static String counts(RevisionShelf shelf) {
        StringBuilder all = new StringBuilder();
        for (int what = 0; what <= 6; what++) {
            all.append(shelf.count(what)).append(' ');
        }
        return all.toString();
    }

    void end(String name) {
        System.out.println(name + ": " + checks + " checks, " + wrong + " wrong");
        if (wrong != 0 || checks == 0) {
            System.exit(1);
        }
    }
}
