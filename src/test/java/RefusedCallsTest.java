import java.util.function.Consumer;

/** "A refused call changes nothing": each call that can be refused, for each reason that it has. */
public final class RefusedCallsTest {
    private static final Check CHECK = new Check();
    private static final int LEAST = Integer.MIN_VALUE;
    private static final int LARGEST = Integer.MAX_VALUE;

    public static void main(String[] args) {
        putAndRemoveOfAFullStore();
        testThatIsBad();
        testAndStepsOfAFullDeal();
        dealOfAFullStore();
        readingsThatAreBad();
        readingsThatAreRefused();
        readingsThatAreMissing();
        compactions();
        events();
        callsOnANewObject();
        CHECK.end("RefusedCallsTest");
    }

    /** The call throws just this, and behind it all is as if it had not been made. */
    private static void refused(String call, Class<? extends RuntimeException> want,
            Consumer<RevisionShelf> run, Consumer<RevisionShelf> refusedCall) {
        RevisionShelf shelf = new RevisionShelf();
        run.accept(shelf);
        CHECK.sentence("Terms", "A refused call changes nothing.");
        CHECK.same(call, Check.answerOf(() -> {
            refusedCall.accept(shelf);
            return "nothing";
        }), Check.thrown(want));
        CHECK.same(call + ", what is seen behind it", Looks.behind(run.andThen(s -> {
            Check.answerOf(() -> {
                refusedCall.accept(s);
                return "nothing";
            });
        })), Looks.behind(run));
    }

    /** A test that holds and two lists that do not do the same. */
    private static void prepareDeal(RevisionShelf shelf) {
        shelf.test(1, 1, 1, 0);
        shelf.step(true, 1, false, 0);
        shelf.step(true, 4, true, 40);
        shelf.step(false, 1, true, 12);
        shelf.step(false, 2, false, 0);
    }

    /** Revisions 1 to 6, compacted up to 2, a deal prepared. */
    private static void some(RevisionShelf shelf) {
        shelf.put(1, 10);
        shelf.put(2, 20);
        shelf.put(3, 30);
        shelf.remove(3);
        shelf.put(2, 21);
        shelf.put(1, 11);
        shelf.compact(2);
        prepareDeal(shelf);
    }

    /** 20 tests, and 20 steps in each list. */
    private static void fullDeal(RevisionShelf shelf) {
        shelf.put(1, 10);
        for (int i = 0; i < 20; i++) {
            shelf.test(1, 0, 0, 10);
            shelf.step(true, i, true, i);
            shelf.step(false, i, i % 3 > 0, -i);
        }
    }

    private static void fill(RevisionShelf shelf, int many) {
        for (int i = 0; i < many; i++) {
            shelf.put(1 + i % 3, i);
        }
    }

    private static void fullStore(RevisionShelf shelf) {
        fill(shelf, 300);
        prepareDeal(shelf);
    }

    /** Either list of the deal makes two events, and there is room for one. */
    private static void almostFullStore(RevisionShelf shelf) {
        fill(shelf, 299);
        prepareDeal(shelf);
    }

    private static void putAndRemoveOfAFullStore() {
        refused("put of a key that's there", Check.FULL, RefusedCallsTest::fullStore, s -> s.put(1, 5));
        refused("put of a new key", Check.FULL, RefusedCallsTest::fullStore, s -> s.put(9, 5));
        refused("put of the least key", Check.FULL, RefusedCallsTest::fullStore, s -> s.put(LEAST, 5));
        refused("remove", Check.FULL, RefusedCallsTest::fullStore, s -> s.remove(2));
    }

    private static void testThatIsBad() {
        int[] whats = {-1, 4, LEAST, LARGEST};
        int[] relations = {-2, 2, LEAST, LARGEST};
        for (int i = 0; i < 4; i++) {
            int what = whats[i];
            int relation = relations[i];
            refused("test of " + what, Check.BAD, RefusedCallsTest::some, s -> s.test(9, what, 0, 7));
            refused("test by " + relation, Check.BAD, RefusedCallsTest::some, s -> s.test(9, 0, relation, 7));
        }
        refused("21st test, bad", Check.BAD, RefusedCallsTest::fullDeal, s -> s.test(9, 4, 0, 7));
    }

    private static void testAndStepsOfAFullDeal() {
        refused("21st test", Check.REFUSED, RefusedCallsTest::fullDeal, s -> s.test(9, 0, 0, 7));
        refused("21st set of the first", Check.REFUSED, RefusedCallsTest::fullDeal, s -> s.step(true, 9, true, 7));
        refused("21st removal of the first", Check.REFUSED, RefusedCallsTest::fullDeal, s -> s.step(true, 9, false, 7));
        refused("21st set of the second", Check.REFUSED, RefusedCallsTest::fullDeal, s -> s.step(false, 9, true, 7));
        refused("21st removal of the second", Check.REFUSED, RefusedCallsTest::fullDeal, s -> s.step(false, 9, false, 7));
    }

    private static void dealOfAFullStore() {
        Consumer<RevisionShelf> otherList = s -> {
            almostFullStore(s);
            s.test(1, 1, 0, 0);
        };
        refused("deal by the first list", Check.FULL, RefusedCallsTest::almostFullStore, RevisionShelf::deal);
        refused("deal by the second list", Check.FULL, otherList, RevisionShelf::deal);
        refused("deal of a full store", Check.FULL, RefusedCallsTest::fullStore, RevisionShelf::deal);
    }

    private static void readingsThatAreBad() {
        for (int at : new int[] {-1, LEAST}) {
            refused("get at " + at, Check.BAD, RefusedCallsTest::some, s -> s.get(1, at));
            refused("state at " + at, Check.BAD, RefusedCallsTest::some, s -> s.state(1, at, 1));
            refused("many at " + at, Check.BAD, RefusedCallsTest::some, s -> s.many(0, 9, at));
            refused("key at " + at, Check.BAD, RefusedCallsTest::some, s -> s.key(0, 9, at, 0));
        }
        for (int what : new int[] {0, 4, LEAST, LARGEST}) {
            refused("state of " + what, Check.BAD, RefusedCallsTest::some, s -> s.state(1, 0, what));
        }
    }

    private static void readingsThatAreRefused() {
        for (int at : new int[] {1, 7, LARGEST}) {
            refused("get at " + at, Check.REFUSED, RefusedCallsTest::some, s -> s.get(1, at));
            refused("state at " + at, Check.REFUSED, RefusedCallsTest::some, s -> s.state(1, at, 1));
            refused("many at " + at, Check.REFUSED, RefusedCallsTest::some, s -> s.many(0, 9, at));
            refused("key at " + at, Check.REFUSED, RefusedCallsTest::some, s -> s.key(0, 9, at, 0));
        }
    }

    private static void readingsThatAreMissing() {
        refused("get of a key never there", Check.MISSING, RefusedCallsTest::some, s -> s.get(9, 0));
        refused("get of a key removed", Check.MISSING, RefusedCallsTest::some, s -> s.get(3, 4));
        for (int i : new int[] {-1, 2, LEAST, LARGEST}) {
            refused("key " + i, Check.MISSING, RefusedCallsTest::some, s -> s.key(0, 9, 0, i));
        }
    }

    private static void compactions() {
        for (int at : new int[] {0, -1, 7, LEAST, LARGEST}) {
            refused("compact at " + at, Check.BAD, RefusedCallsTest::some, s -> s.compact(at));
        }
        refused("compact at the compacted", Check.REFUSED, RefusedCallsTest::some, s -> s.compact(2));
        refused("compact below the compacted", Check.REFUSED, RefusedCallsTest::some, s -> s.compact(1));
    }

    private static void events() {
        for (int from : new int[] {0, -1, LEAST}) {
            refused("event from " + from, Check.BAD, RefusedCallsTest::some, s -> s.event(from, 0, 0));
        }
        for (int what : new int[] {-1, 3, LEAST, LARGEST}) {
            refused("event, " + what, Check.BAD, RefusedCallsTest::some, s -> s.event(3, 0, what));
        }
        for (int from : new int[] {1, 2}) {
            refused("event from " + from, Check.REFUSED, RefusedCallsTest::some, s -> s.event(from, 0, 0));
        }
        for (int i : new int[] {-1, 4, LEAST, LARGEST}) {
            refused("event " + i, Check.MISSING, RefusedCallsTest::some, s -> s.event(3, i, 0));
        }
        for (int from : new int[] {7, LARGEST}) {
            refused("event from " + from, Check.MISSING, RefusedCallsTest::some, s -> s.event(from, 0, 0));
        }
    }

    private static void callsOnANewObject() {
        Consumer<RevisionShelf> nothing = s -> { };
        refused("get", Check.MISSING, nothing, s -> s.get(0, 0));
        refused("key", Check.MISSING, nothing, s -> s.key(LEAST, LARGEST, 0, 0));
        refused("compact", Check.BAD, nothing, s -> s.compact(1));
        refused("event", Check.MISSING, nothing, s -> s.event(1, 0, 0));
        refused("get at 1", Check.REFUSED, nothing, s -> s.get(0, 1));
    }
}
