/** Each boundary that promises 1 to 6 name: a new object, put, remove, test, step, deal. */
public final class ChangeEdgesTest {
    private static final Check CHECK = new Check();
    private static final int LEAST = Integer.MIN_VALUE;
    private static final int LARGEST = Integer.MAX_VALUE;

    public static void main(String[] args) {
        newObjectHasNoKeys();
        putTakesTheEdgesOfLong();
        putThatIsFullSetsNothing();
        removeOfNoKeyAnswers0();
        removeOfNoKeyAnswers0WhenFull();
        removeThatIsFullRemovesNothing();
        testOfNoSuchWhatIsBad();
        testByNoSuchRelationIsBad();
        testTakesTheEdgesOfWhatAndRelation();
        the21stTestIsRefused();
        the21stStepOfTheFirstListIsRefused();
        the21stStepOfTheSecondListIsRefused();
        stepTakesTheEdgesOfLong();
        stepThatRemovesIgnoresItsValue();
        dealAnswersItsList();
        fullDealByTheFirstListStays();
        fullDealByTheSecondListStays();
        dealThatStayedCanBeDone();
        dealOfJustTheRoomIsDone();
        fullIsOfTheListThatIsDone();
        fullIsOfTheEventsThatStepsMake();
        CHECK.end("ChangeEdgesTest");
    }

    private static void fill(RevisionShelf shelf, int events) {
        for (int i = 0; i < events; i++) {
            shelf.put(i % 3, i);
        }
    }

    private static void newObjectHasNoKeys() {
        CHECK.sentence("Promise 1", "No KEYS.");
        RevisionShelf shelf = new RevisionShelf();
        CHECK.same("counts", Check.counts(shelf), "0 0 0 0 0 0 0 ");
        CHECK.due("many", shelf.many(LEAST, LARGEST, 0), 0);
        for (int key : new int[] {0, 1, -1, LEAST, LARGEST}) {
            CHECK.refuses("get " + key, Check.MISSING, shelf, () -> shelf.get(key, 0));
            CHECK.due("state " + key, shelf.state(key, 0, 1), 0);
            CHECK.due("remove " + key, shelf.remove(key), 0);
        }
        CHECK.refuses("key 0", Check.MISSING, shelf, () -> shelf.key(LEAST, LARGEST, 0, 0));
        CHECK.refuses("event 0", Check.MISSING, shelf, () -> shelf.event(1, 0, 0));
    }

    private static void putTakesTheEdgesOfLong() {
        CHECK.sentence("Promise 2", "The KEY is set.");
        RevisionShelf shelf = new RevisionShelf();
        long[] edges = {Long.MIN_VALUE, Long.MAX_VALUE, 0, -1, 1L << 32};
        for (int i = 0; i < edges.length; i++) {
            CHECK.due("put of " + edges[i], shelf.put(1, edges[i]), i + 1);
            CHECK.due("get", shelf.get(1, 0), edges[i]);
        }
    }

    private static void putThatIsFullSetsNothing() {
        CHECK.sentence("Promise 2", "throws IndexOutOfBoundsException");
        RevisionShelf shelf = new RevisionShelf();
        fill(shelf, 300);
        CHECK.refuses("put of a key that's there", Check.FULL, shelf, () -> shelf.put(2, 5));
        CHECK.due("its VALUE", shelf.get(2, 0), 299);
        CHECK.due("its VERSION", shelf.state(2, 0, 1), 100);
        CHECK.refuses("put of a new key", Check.FULL, shelf, () -> shelf.put(3, 5));
        CHECK.due("it isn't there", shelf.state(3, 0, 1), 0);
    }

    private static void removeOfNoKeyAnswers0() {
        CHECK.sentence("Promise 3", "Answers the REVISION, 0 if it isn't there.");
        RevisionShelf shelf = new RevisionShelf();
        CHECK.due("of an empty store", shelf.remove(0), 0);
        shelf.put(1, 0);
        CHECK.due("of a key never there", shelf.remove(0), 0);
        CHECK.due("of a key that's there, VALUE 0", shelf.remove(1), 2);
        CHECK.due("of a key removed", shelf.remove(1), 0);
        CHECK.same("counts", Check.counts(shelf), "2 0 2 0 0 0 0 ");
    }

    private static void removeOfNoKeyAnswers0WhenFull() {
        CHECK.sentence("Promise 3", "0 if it isn't there.");
        RevisionShelf shelf = new RevisionShelf();
        fill(shelf, 299);
        shelf.remove(1);
        CHECK.due("of a key removed, full store", shelf.remove(1), 0);
        CHECK.due("of a key never there, full store", shelf.remove(9), 0);
        CHECK.same("counts", Check.counts(shelf), "300 0 300 0 0 0 2 ");
    }

    private static void removeThatIsFullRemovesNothing() {
        CHECK.sentence("Promise 3", "throws IndexOutOfBoundsException");
        RevisionShelf shelf = new RevisionShelf();
        fill(shelf, 300);
        CHECK.refuses("remove", Check.FULL, shelf, () -> shelf.remove(2));
        CHECK.due("its VALUE", shelf.get(2, 0), 299);
    }

    private static void testOfNoSuchWhatIsBad() {
        CHECK.sentence("Promise 4", "of its VALUE (0), VERSION (1), CREATED (2), SET (3)");
        RevisionShelf shelf = new RevisionShelf();
        for (int what : new int[] {-1, 4, LEAST, LARGEST}) {
            CHECK.refuses("test of " + what, Check.BAD, shelf, () -> shelf.test(1, what, 0, 0));
        }
    }

    private static void testByNoSuchRelationIsBad() {
        CHECK.sentence("Promise 4", "below (-1), equal to (0), above (1) v");
        RevisionShelf shelf = new RevisionShelf();
        for (int relation : new int[] {-2, 2, LEAST, LARGEST}) {
            CHECK.refuses("test by " + relation, Check.BAD, shelf, () -> shelf.test(1, 0, relation, 0));
        }
    }

    /** VALUE, VERSION, CREATED and SET are four numbers, so that none can stand for another. */
    private static void testTakesTheEdgesOfWhatAndRelation() {
        CHECK.sentence("Promise 4", "below (-1), equal to (0), above (1) v");
        RevisionShelf shelf = new RevisionShelf();
        shelf.put(2, 0);
        shelf.put(1, 0);
        shelf.put(1, 0);
        shelf.put(2, 0);
        shelf.put(1, 40);
        long[] held = {40, 3, 2, 5};
        for (int what = 0; what <= 3; what++) {
            for (int relation = -1; relation <= 1; relation++) {
                for (int off = -1; off <= 1; off++) {
                    shelf.test(1, what, relation, held[what] + off);
                    int want = -off == relation ? 1 : 2;
                    CHECK.due(what + " by " + relation + ", v " + off + " off", shelf.deal(), want);
                }
            }
        }
    }

    private static void the21stTestIsRefused() {
        CHECK.sentence("Promise 4", "A TEST more (the 21st: REFUSED; so for STEPS)");
        RevisionShelf shelf = new RevisionShelf();
        for (int i = 1; i <= 20; i++) {
            shelf.test(1, 0, 0, 0);
            CHECK.due("TESTS", shelf.count(3), i);
        }
        CHECK.refuses("the 21st", Check.REFUSED, shelf, () -> shelf.test(1, 0, 0, 0));
        CHECK.refuses("the 21st again, one that fails", Check.REFUSED, shelf, () -> shelf.test(1, 0, 0, 1));
        CHECK.due("deal by the 20", shelf.deal(), 1);
        shelf.test(1, 0, 0, 1);
        CHECK.due("the first of the new deal", shelf.count(3), 1);
    }

    private static void the21stStepOfAListIsRefused(boolean first) {
        RevisionShelf shelf = new RevisionShelf();
        int list = first ? 4 : 5;
        for (int i = 1; i <= 20; i++) {
            shelf.step(first, i, true, i);
            CHECK.due("STEPS", shelf.count(list), i);
        }
        CHECK.refuses("the 21st, a set", Check.REFUSED, shelf, () -> shelf.step(first, 21, true, 1));
        CHECK.refuses("the 21st, a removal", Check.REFUSED, shelf, () -> shelf.step(first, 1, false, 1));
        shelf.step(!first, 21, true, 1);
        CHECK.due("STEPS of the other list", shelf.count(9 - list), 1);
        shelf.test(1, 0, first ? 0 : 1, 0);
        CHECK.due("deal by the 20", shelf.deal(), first ? 1 : 2);
        CHECK.same("counts", Check.counts(shelf), "1 0 20 0 0 0 20 ");
        shelf.step(first, 1, true, 1);
        CHECK.due("the first of the new deal", shelf.count(list), 1);
    }

    private static void the21stStepOfTheFirstListIsRefused() {
        CHECK.sentence("Promise 4", "so for STEPS");
        the21stStepOfAListIsRefused(true);
    }

    private static void the21stStepOfTheSecondListIsRefused() {
        CHECK.sentence("Promise 4", "so for STEPS");
        the21stStepOfAListIsRefused(false);
    }

    private static void stepTakesTheEdgesOfLong() {
        CHECK.sentence("Promise 5", "A STEP more of the first list, or the second: set");
        RevisionShelf shelf = new RevisionShelf();
        for (long value : new long[] {Long.MIN_VALUE, Long.MAX_VALUE, 0, -1, 1L << 32}) {
            shelf.step(true, 1, true, value);
            shelf.deal();
            CHECK.due("set by the first list", shelf.get(1, 0), value);
            shelf.test(1, 1, 0, 0);
            shelf.step(false, 2, true, value);
            shelf.deal();
            CHECK.due("set by the second list", shelf.get(2, 0), value);
        }
    }

    private static void stepThatRemovesIgnoresItsValue() {
        CHECK.sentence("Promise 5", "set, or remove");
        RevisionShelf shelf = new RevisionShelf();
        shelf.put(1, 7);
        shelf.step(true, 1, false, 7);
        shelf.step(true, 2, false, 7);
        shelf.deal();
        CHECK.same("counts", Check.counts(shelf), "2 0 2 0 0 0 0 ");
        CHECK.refuses("get of the key removed", Check.MISSING, shelf, () -> shelf.get(1, 0));
        CHECK.refuses("get of the key never there", Check.MISSING, shelf, () -> shelf.get(2, 0));
    }

    private static void dealAnswersItsList() {
        CHECK.sentence("Promise 6", "Answers 1 for the first list, 2 for the second.");
        RevisionShelf shelf = new RevisionShelf();
        CHECK.due("without anything", shelf.deal(), 1);
        shelf.test(1, 0, 1, 0);
        CHECK.due("without steps, a test fails", shelf.deal(), 2);
        shelf.step(false, 1, true, 0);
        CHECK.due("without steps of the first list", shelf.deal(), 1);
        shelf.test(1, 0, 1, 0);
        shelf.step(true, 1, true, 0);
        CHECK.due("without steps of the second list", shelf.deal(), 2);
        CHECK.due("REVISION", shelf.count(0), 0);
    }

    private static void fullDealByTheFirstListStays() {
        CHECK.sentence("Promise 6", "(FULL: the DEAL stays as it is.)");
        RevisionShelf shelf = new RevisionShelf();
        fill(shelf, 299);
        shelf.test(1, 1, 1, 0);
        shelf.step(true, 1, true, 5);
        shelf.step(true, 4, true, 6);
        shelf.step(false, 2, true, 7);
        CHECK.refuses("deal", Check.FULL, shelf, shelf::deal);
        CHECK.refuses("deal again", Check.FULL, shelf, shelf::deal);
        CHECK.same("counts", Check.counts(shelf), "299 0 299 1 2 1 3 ");
        CHECK.due("no step is done", shelf.get(1, 0), 298);
    }

    private static void fullDealByTheSecondListStays() {
        CHECK.sentence("Promise 6", "(FULL: the DEAL stays as it is.)");
        RevisionShelf shelf = new RevisionShelf();
        fill(shelf, 299);
        shelf.test(1, 1, 0, 0);
        shelf.step(true, 2, true, 7);
        shelf.step(false, 1, false, 5);
        shelf.step(false, 1, true, 6);
        CHECK.refuses("deal", Check.FULL, shelf, shelf::deal);
        CHECK.refuses("deal again", Check.FULL, shelf, shelf::deal);
        CHECK.same("counts", Check.counts(shelf), "299 0 299 1 1 2 3 ");
        CHECK.due("no step is done", shelf.get(1, 0), 298);
    }

    /** A test more makes it a deal by the other list, for which there is room. */
    private static void dealThatStayedCanBeDone() {
        CHECK.sentence("Promise 6", "(FULL: the DEAL stays as it is.)");
        RevisionShelf shelf = new RevisionShelf();
        fill(shelf, 299);
        shelf.step(true, 1, true, 5);
        shelf.step(true, 4, true, 6);
        shelf.step(false, 2, true, 7);
        CHECK.refuses("deal", Check.FULL, shelf, shelf::deal);
        shelf.test(1, 1, 0, 0);
        CHECK.due("deal by the other list", shelf.deal(), 2);
        CHECK.due("its step is done", shelf.get(2, 300), 7);
        CHECK.same("counts", Check.counts(shelf), "300 0 300 0 0 0 3 ");
    }

    private static void dealOfJustTheRoomIsDone() {
        CHECK.sentence("Promise 6", "The DEAL is done.");
        for (int room = 1; room <= 20; room += 19) {
            RevisionShelf shelf = new RevisionShelf();
            fill(shelf, 300 - room);
            for (int i = 0; i < room; i++) {
                shelf.step(true, i, true, -i);
            }
            CHECK.due("deal of " + room, shelf.deal(), 1);
            CHECK.due("EVENTS", shelf.count(2), 300);
            CHECK.due("REVISION", shelf.count(0), 301 - room);
            CHECK.due("the last step is done", shelf.get(room - 1, 0), 1 - room);
            RevisionShelf other = new RevisionShelf();
            fill(other, 301 - room);
            for (int i = 0; i < room; i++) {
                other.step(true, i, true, -i);
            }
            CHECK.refuses("deal of " + room + " with room for one less", Check.FULL, other, other::deal);
        }
    }

    private static void fullIsOfTheListThatIsDone() {
        CHECK.sentence("Promise 6", "The DEAL is done.");
        RevisionShelf shelf = new RevisionShelf();
        fill(shelf, 300);
        shelf.step(false, 1, true, 0);
        CHECK.due("steps of the second list alone", shelf.deal(), 1);
        shelf.test(1, 1, 0, 0);
        shelf.step(true, 1, true, 0);
        CHECK.due("steps of the first list alone", shelf.deal(), 2);
        CHECK.same("counts", Check.counts(shelf), "300 0 300 0 0 0 3 ");
    }

    /** Each text is a list of steps: s sets and r removes key 0, that's there, S and R key 9, that isn't. */
    private static void fullIsOfTheEventsThatStepsMake() {
        CHECK.sentence("Terms", "what a STEP reads are STEPS before it");
        String[] lists = {"r", "rr", "rs", "rsr", "rsrr", "sr", "srr", "R", "SR", "SRR", "SRS", "SRSR", "RSR", "RR",
            "rR", "Rr", "rSR", "SrR", "SrRs", "rRRr", "RRRr", "SrsR"};
        int[] events = {1, 1, 2, 3, 3, 2, 2, 0, 2, 2, 3, 4, 2, 0,
            1, 1, 3, 3, 4, 1, 1, 4};
        for (int i = 0; i < lists.length; i++) {
            RevisionShelf shelf = new RevisionShelf();
            fill(shelf, 300 - events[i]);
            addSteps(shelf, lists[i]);
            CHECK.same(lists[i] + " with just its room", Check.answerOf(shelf::deal), "1");
            CHECK.due("EVENTS behind " + lists[i], shelf.count(2), 300);
            if (events[i] > 0) {
                RevisionShelf other = new RevisionShelf();
                fill(other, 301 - events[i]);
                addSteps(other, lists[i]);
                CHECK.refuses(lists[i] + " with room for one less", Check.FULL, other, other::deal);
            }
        }
    }

    private static void addSteps(RevisionShelf shelf, String list) {
        for (char step : list.toCharArray()) {
            int key = Character.isLowerCase(step) ? 0 : 9;
            shelf.step(true, key, Character.toLowerCase(step) == 's', 0);
        }
    }
}
