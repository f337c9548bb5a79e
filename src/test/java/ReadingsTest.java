/** Promises 7 to 10: get, state, many, key; and the revisions that a reading is done at. */
public final class ReadingsTest {
    private static final Check CHECK = new Check();

    public static void main(String[] args) {
        getReadsEachRevision();
        getTellsWhatIsMissing();
        stateReadsEachRevision();
        stateRefusesWhatIsBad();
        manyCountsWithin();
        keyIsNumberedAscending();
        keysComeAscendingFromAnyOrder();
        keyTellsWhatIsMissing();
        readingsRefuseRevisions();
        readingsGoOnFromTheCompacted();
        badGoesBeforeRefusedAndMissing();
        CHECK.end("ReadingsTest");
    }

    /** 1: put 5; 2: put 3; 3: put 5; 4: remove 5; 5: put -8; 6: put 5. */
    private static RevisionShelf sample() {
        RevisionShelf shelf = new RevisionShelf();
        shelf.put(5, 10);
        shelf.put(3, -20);
        shelf.put(5, 30);
        shelf.remove(5);
        shelf.put(-8, Long.MAX_VALUE);
        shelf.put(5, 0);
        return shelf;
    }

    private static void getReadsEachRevision() {
        RevisionShelf shelf = sample();
        CHECK.due("get(5, 1)", shelf.get(5, 1), 10);
        CHECK.due("get(5, 2)", shelf.get(5, 2), 10);
        CHECK.due("get(5, 3)", shelf.get(5, 3), 30);
        CHECK.due("get(5, 6)", shelf.get(5, 6), 0);
        CHECK.due("get(5, 0)", shelf.get(5, 0), 0);
        CHECK.due("get(3, 6)", shelf.get(3, 6), -20);
        CHECK.due("get(-8, 0)", shelf.get(-8, 0), Long.MAX_VALUE);
    }

    private static void getTellsWhatIsMissing() {
        RevisionShelf shelf = sample();
        CHECK.refuses("removed then", Check.MISSING, shelf, () -> shelf.get(5, 4));
        CHECK.refuses("still removed", Check.MISSING, shelf, () -> shelf.get(5, 5));
        CHECK.refuses("not yet there", Check.MISSING, shelf, () -> shelf.get(3, 1));
        CHECK.refuses("never there", Check.MISSING, shelf, () -> shelf.get(4, 0));
    }

    private static void stateReadsEachRevision() {
        RevisionShelf shelf = sample();
        int[] versions = {1, 1, 2, 0, 0, 1};
        int[] creations = {1, 1, 1, 0, 0, 6};
        int[] sets = {1, 1, 3, 0, 0, 6};
        for (int at = 1; at <= 6; at++) {
            CHECK.due("VERSION at " + at, shelf.state(5, at, 1), versions[at - 1]);
            CHECK.due("CREATED at " + at, shelf.state(5, at, 2), creations[at - 1]);
            CHECK.due("SET at " + at, shelf.state(5, at, 3), sets[at - 1]);
        }
        CHECK.due("VERSION at the latest", shelf.state(5, 0, 1), 1);
        CHECK.due("CREATED at the latest", shelf.state(3, 0, 2), 2);
        CHECK.due("never there", shelf.state(4, 0, 3), 0);
    }

    private static void stateRefusesWhatIsBad() {
        RevisionShelf shelf = sample();
        int[] whats = {0, 4, -1, Integer.MIN_VALUE, Integer.MAX_VALUE};
        for (int what : whats) {
            CHECK.refuses("state of " + what, Check.BAD, shelf, () -> shelf.state(5, 0, what));
            CHECK.refuses("state of " + what + ", not there", Check.BAD, shelf, () -> shelf.state(4, 0, what));
        }
    }

    private static void manyCountsWithin() {
        RevisionShelf shelf = sample();
        int[] all = {1, 2, 2, 1, 2, 3};
        for (int at = 1; at <= 6; at++) {
            CHECK.due("many at " + at, shelf.many(-100, 100, at), all[at - 1]);
        }
        CHECK.due("low is within", shelf.many(3, 100, 0), 2);
        CHECK.due("above low", shelf.many(4, 100, 0), 1);
        CHECK.due("high is not within", shelf.many(-100, 5, 0), 2);
        CHECK.due("below high", shelf.many(-100, 6, 0), 3);
        CHECK.due("low is high", shelf.many(3, 3, 0), 0);
        CHECK.due("low above high", shelf.many(6, -100, 0), 0);
        shelf.put(Integer.MAX_VALUE, 1);
        shelf.put(Integer.MIN_VALUE, 1);
        CHECK.due("the largest int is never below high",
                shelf.many(Integer.MIN_VALUE, Integer.MAX_VALUE, 0), 4);
        CHECK.due("KEYS", shelf.count(6), 5);
    }

    private static String keys(RevisionShelf shelf, int low, int high, int revision) {
        StringBuilder all = new StringBuilder();
        for (int i = 0; i < shelf.many(low, high, revision); i++) {
            all.append(shelf.key(low, high, revision, i)).append(' ');
        }
        return all.toString();
    }

    private static void keyIsNumberedAscending() {
        RevisionShelf shelf = sample();
        CHECK.same("keys at the latest", keys(shelf, -100, 100, 0), "-8 3 5 ");
        CHECK.same("keys at 3", keys(shelf, -100, 100, 3), "3 5 ");
        CHECK.same("keys at 4", keys(shelf, -100, 100, 4), "3 ");
        CHECK.same("low is within", keys(shelf, 3, 100, 0), "3 5 ");
        CHECK.same("high is not within", keys(shelf, -8, 5, 0), "-8 3 ");
        shelf.put(Integer.MAX_VALUE - 1, 1);
        shelf.put(Integer.MIN_VALUE, 1);
        CHECK.same("keys far apart", keys(shelf, Integer.MIN_VALUE, Integer.MAX_VALUE, 0),
                "-2147483648 -8 3 5 2147483646 ");
    }

    /** 300 keys, so that the readings go through a store that is full. */
    private static void keysComeAscendingFromAnyOrder() {
        RevisionShelf shelf = new RevisionShelf();
        for (int i = 0; i < 300; i++) {
            shelf.put(i * 77 % 300, i);
        }
        CHECK.due("many of a full store", shelf.many(0, 300, 0), 300);
        for (int i = 0; i < 100; i++) {
            CHECK.due("key " + i, shelf.key(0, 300, 0, i * 3), i * 3);
        }
        CHECK.refuses("key 300", Check.MISSING, shelf, () -> shelf.key(0, 300, 0, 300));
        CHECK.refuses("get of a full store", Check.MISSING, shelf, () -> shelf.get(300, 0));
        CHECK.due("state of a full store", shelf.state(300, 0, 1), 0);
    }

    private static void keyTellsWhatIsMissing() {
        RevisionShelf shelf = sample();
        int[] numbers = {3, -1, Integer.MIN_VALUE, Integer.MAX_VALUE};
        for (int i : numbers) {
            CHECK.refuses("key " + i, Check.MISSING, shelf, () -> shelf.key(-100, 100, 0, i));
        }
        CHECK.refuses("low is high", Check.MISSING, shelf, () -> shelf.key(3, 3, 0, 0));
        CHECK.refuses("low above high", Check.MISSING, shelf, () -> shelf.key(100, -100, 0, 0));
    }

    private static void refusesReading(String name, Class<? extends RuntimeException> want,
            RevisionShelf shelf, int revision) {
        CHECK.refuses("get " + name, want, shelf, () -> shelf.get(3, revision));
        CHECK.refuses("state " + name, want, shelf, () -> shelf.state(3, revision, 1));
        CHECK.refuses("many " + name, want, shelf, () -> shelf.many(0, 9, revision));
        CHECK.refuses("key " + name, want, shelf, () -> shelf.key(0, 9, revision, 0));
    }

    private static void readingsRefuseRevisions() {
        RevisionShelf shelf = sample();
        refusesReading("below 0", Check.BAD, shelf, -1);
        refusesReading("far below 0", Check.BAD, shelf, Integer.MIN_VALUE);
        refusesReading("above the latest", Check.REFUSED, shelf, 7);
        refusesReading("far above the latest", Check.REFUSED, shelf, Integer.MAX_VALUE);
        refusesReading("1 of a new object", Check.REFUSED, new RevisionShelf(), 1);
    }

    private static void readingsGoOnFromTheCompacted() {
        RevisionShelf shelf = sample();
        shelf.compact(3);
        refusesReading("before the compacted", Check.REFUSED, shelf, 2);
        refusesReading("1 before the compacted", Check.REFUSED, shelf, 1);
        refusesReading("below 0 behind compact", Check.BAD, shelf, -1);
        CHECK.due("get at the compacted", shelf.get(3, 3), -20);
        CHECK.due("get behind the compacted", shelf.get(3, 4), -20);
        CHECK.due("CREATED before the compacted", shelf.state(5, 3, 2), 1);
        CHECK.due("many at the compacted", shelf.many(0, 9, 3), 2);
        CHECK.due("key at the compacted", shelf.key(0, 9, 3, 1), 5);
        shelf.compact(6);
        refusesReading("before the latest", Check.REFUSED, shelf, 5);
        CHECK.due("get at 0", shelf.get(3, 0), -20);
        CHECK.due("get at the latest", shelf.get(3, 6), -20);
    }

    private static void badGoesBeforeRefusedAndMissing() {
        RevisionShelf shelf = sample();
        CHECK.refuses("bad what, refused", Check.BAD, shelf, () -> shelf.state(3, 7, 0));
        CHECK.refuses("refused, missing key", Check.REFUSED, shelf, () -> shelf.get(4, 7));
        CHECK.refuses("bad, missing key", Check.BAD, shelf, () -> shelf.get(4, -1));
        CHECK.refuses("refused, missing number", Check.REFUSED, shelf, () -> shelf.key(0, 9, 7, -1));
        CHECK.refuses("bad, missing number", Check.BAD, shelf, () -> shelf.key(0, 9, -1, -1));
    }
}
