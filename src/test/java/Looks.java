import java.util.function.Consumer;

/**
 * All that can be seen of a shelf, as one text. A run of calls is made anew on a new object after
 * some looks, so that no look is beyond the 512 calls that the document promises anything for.
 */
final class Looks {
    /** So a run may have 362 calls, enough to fill a store. */
    private static final int LOOKS = 150;
    private static final int LOW = Integer.MIN_VALUE;
    private static final int HIGH = Integer.MAX_VALUE;

    private final Consumer<RevisionShelf> run;
    private final StringBuilder seen = new StringBuilder();
    private RevisionShelf shelf;
    private int left = 0;

    private Looks(Consumer<RevisionShelf> run) {
        this.run = run;
    }

    /** What can be read behind the run, and what the deal then does, by either of its lists. */
    static String behind(Consumer<RevisionShelf> run) {
        return stored(run)
            + "\ndeal: " + stored(run.andThen(Looks::deal))
            + "\nother deal: " + stored(run.andThen(Looks::failTests).andThen(Looks::deal));
    }

    private static void deal(RevisionShelf shelf) {
        Check.answerOf(shelf::deal);
    }

    private static void failTests(RevisionShelf shelf) {
        Check.answerOf(() -> {
            shelf.test(0, 0, 1, Long.MAX_VALUE);
            return "nothing";
        });
    }

    private static String stored(Consumer<RevisionShelf> run) {
        Looks looks = new Looks(run);
        looks.seeCounts();
        int compacted = looks.next().count(1);
        int latest = looks.next().count(0);
        for (int revision = compacted; revision <= latest; revision++) {
            looks.seeRevision(revision);
        }
        looks.seeEvents(compacted + 1);
        return looks.seen.toString();
    }

    private RevisionShelf next() {
        if (left == 0) {
            shelf = new RevisionShelf();
            run.accept(shelf);
            left = LOOKS;
        }
        left--;
        return shelf;
    }

    private void see(Check.Call call) {
        seen.append(Check.answerOf(call)).append(' ');
    }

    private void seeCounts() {
        for (int what = 0; what <= 6; what++) {
            int of = what;
            see(() -> next().count(of));
        }
    }

    private void seeRevision(int revision) {
        seen.append("\nat ").append(revision).append(": ");
        int keys = next().many(LOW, HIGH, revision);
        for (int i = 0; i < keys; i++) {
            int key = next().key(LOW, HIGH, revision, i);
            seen.append(key).append(' ');
            see(() -> next().get(key, revision));
            for (int what = 1; what <= 3; what++) {
                int of = what;
                see(() -> next().state(key, revision, of));
            }
        }
    }

    private void seeEvents(int from) {
        seen.append("\nevents: ");
        int events = next().count(2);
        for (int i = 0; i < events; i++) {
            int number = i;
            for (int what = 0; what <= 2; what++) {
                int of = what;
                see(() -> next().event(from, number, of));
            }
        }
    }
}
