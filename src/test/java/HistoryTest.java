/** Promises 11 to 13: compact, event, count. */
public final class HistoryTest {
    private static final Check CHECK = new Check();

    public static void main(String[] args) {
        compactRefusesWhatIsBad();
        compactOnlyGoesUp();
        compactKeepsWhatIs();
        eventsAreNumberedFromARevision();
        eventTellsWhatIsMissing();
        eventsOfAFullStore();
        eventRefusesWhatIsBad();
        eventRefusesTheCompacted();
        countTellsEach();
        CHECK.end("HistoryTest");
    }

    private static Object compacted(RevisionShelf shelf, int revision) {
        shelf.compact(revision);
        return "nothing";
    }

    /** Revisions 1 and 2 put, 3 is a deal of three events, 4 removes. */
    private static RevisionShelf sample() {
        RevisionShelf shelf = new RevisionShelf();
        shelf.put(-5, 1);
        shelf.put(9, 2);
        shelf.step(true, 9, false, 0);
        shelf.step(true, 4, true, 3);
        shelf.step(true, 9, true, 4);
        shelf.deal();
        shelf.remove(-5);
        return shelf;
    }

    private static void compactRefusesWhatIsBad() {
        RevisionShelf shelf = sample();
        int[] revisions = {0, -1, 5, Integer.MIN_VALUE, Integer.MAX_VALUE};
        for (int revision : revisions) {
            CHECK.refuses("compact " + revision, Check.BAD, shelf, () -> compacted(shelf, revision));
        }
        RevisionShelf none = new RevisionShelf();
        CHECK.refuses("compact 0 of a new object", Check.BAD, none, () -> compacted(none, 0));
        CHECK.refuses("compact 1 of a new object", Check.BAD, none, () -> compacted(none, 1));
    }

    private static void compactOnlyGoesUp() {
        RevisionShelf shelf = sample();
        shelf.compact(1);
        CHECK.due("COMPACTED", shelf.count(1), 1);
        shelf.compact(3);
        CHECK.due("COMPACTED", shelf.count(1), 3);
        CHECK.refuses("the same again", Check.REFUSED, shelf, () -> compacted(shelf, 3));
        CHECK.refuses("one below", Check.REFUSED, shelf, () -> compacted(shelf, 2));
        CHECK.refuses("1", Check.REFUSED, shelf, () -> compacted(shelf, 1));
        CHECK.refuses("0 is bad still", Check.BAD, shelf, () -> compacted(shelf, 0));
        shelf.compact(4);
        CHECK.due("COMPACTED is the latest", shelf.count(1), 4);
        CHECK.refuses("the latest again", Check.REFUSED, shelf, () -> compacted(shelf, 4));
    }

    private static void compactKeepsWhatIs() {
        RevisionShelf shelf = sample();
        shelf.step(true, 1, true, 1);
        shelf.compact(4);
        CHECK.same("counts behind it", Check.counts(shelf), "4 4 6 0 1 0 2 ");
        CHECK.due("VALUE", shelf.get(9, 0), 4);
        CHECK.due("VERSION", shelf.state(9, 4, 1), 1);
        CHECK.due("put goes on", shelf.put(9, 5), 5);
        CHECK.due("VERSION goes on", shelf.state(9, 0, 1), 2);
        CHECK.due("get at the compacted", shelf.get(9, 4), 4);
    }

    private static String events(RevisionShelf shelf, int from, int what, int many) {
        StringBuilder all = new StringBuilder();
        for (int i = 0; i < many; i++) {
            all.append(shelf.event(from, i, what)).append(' ');
        }
        return all.toString();
    }

    private static void eventsAreNumberedFromARevision() {
        RevisionShelf shelf = sample();
        CHECK.same("keys from 1", events(shelf, 1, 0, 6), "-5 9 9 4 9 -5 ");
        CHECK.same("revisions from 1", events(shelf, 1, 1, 6), "1 2 3 3 3 4 ");
        CHECK.same("kinds from 1", events(shelf, 1, 2, 6), "1 1 0 1 1 0 ");
        CHECK.same("keys from 3", events(shelf, 3, 0, 4), "9 4 9 -5 ");
        CHECK.same("kinds from 4", events(shelf, 4, 2, 1), "0 ");
    }

    private static void eventTellsWhatIsMissing() {
        RevisionShelf shelf = sample();
        int[] numbers = {4, -1, Integer.MIN_VALUE, Integer.MAX_VALUE, Integer.MAX_VALUE - 2};
        for (int i : numbers) {
            CHECK.refuses("event " + i + " from 3", Check.MISSING, shelf, () -> shelf.event(3, i, 0));
        }
        CHECK.refuses("above the latest", Check.MISSING, shelf, () -> shelf.event(5, 0, 0));
        CHECK.refuses("far above", Check.MISSING, shelf, () -> shelf.event(Integer.MAX_VALUE, 0, 1));
        CHECK.refuses("above, number -1", Check.MISSING, shelf, () -> shelf.event(5, -1, 0));
    }

    private static void eventsOfAFullStore() {
        RevisionShelf shelf = new RevisionShelf();
        for (int i = 0; i < 300; i++) {
            shelf.put(i, i);
        }
        CHECK.due("the last from 1", shelf.event(1, 299, 0), 299);
        CHECK.due("the last from the latest", shelf.event(300, 0, 0), 299);
        CHECK.refuses("behind the last", Check.MISSING, shelf, () -> shelf.event(1, 300, 0));
        CHECK.refuses("from above the latest", Check.MISSING, shelf, () -> shelf.event(301, 0, 0));
        CHECK.due("KEYS", shelf.count(6), 300);
    }

    private static void eventRefusesWhatIsBad() {
        RevisionShelf shelf = sample();
        int[] froms = {0, -1, Integer.MIN_VALUE};
        for (int from : froms) {
            CHECK.refuses("event from " + from, Check.BAD, shelf, () -> shelf.event(from, 0, 0));
        }
        int[] whats = {-1, 3, Integer.MIN_VALUE, Integer.MAX_VALUE};
        for (int what : whats) {
            CHECK.refuses("event of " + what, Check.BAD, shelf, () -> shelf.event(1, 0, what));
            CHECK.refuses("missing event of " + what, Check.BAD, shelf, () -> shelf.event(1, 6, what));
        }
    }

    private static void eventRefusesTheCompacted() {
        RevisionShelf shelf = sample();
        shelf.compact(2);
        CHECK.refuses("from the compacted", Check.REFUSED, shelf, () -> shelf.event(2, 0, 0));
        CHECK.refuses("from before it", Check.REFUSED, shelf, () -> shelf.event(1, 0, 0));
        CHECK.refuses("from before it, missing", Check.REFUSED, shelf, () -> shelf.event(1, 99, 0));
        CHECK.refuses("from before it, bad", Check.BAD, shelf, () -> shelf.event(1, 0, 3));
        CHECK.refuses("from 0", Check.BAD, shelf, () -> shelf.event(0, 0, 0));
        CHECK.same("from behind it", events(shelf, 3, 0, 4), "9 4 9 -5 ");
        shelf.compact(4);
        CHECK.refuses("from the latest", Check.REFUSED, shelf, () -> shelf.event(4, 0, 0));
        CHECK.refuses("from above the latest", Check.MISSING, shelf, () -> shelf.event(5, 0, 0));
    }

    private static void countTellsEach() {
        RevisionShelf shelf = sample();
        shelf.compact(2);
        shelf.test(1, 0, 0, 0);
        for (int i = 0; i < 2; i++) {
            shelf.step(true, 1, true, 0);
        }
        for (int i = 0; i < 3; i++) {
            shelf.step(false, 1, true, 0);
        }
        CHECK.same("each count", Check.counts(shelf), "4 2 6 1 2 3 2 ");
        int[] whats = {-1, 7, Integer.MIN_VALUE, Integer.MAX_VALUE};
        for (int what : whats) {
            CHECK.due("count of " + what, shelf.count(what), -1);
        }
    }
}
