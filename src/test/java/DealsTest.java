/** Promises 4 to 6: test, step, deal. */
public final class DealsTest {
    private static final Check CHECK = new Check();

    public static void main(String[] args) {
        testRefusesWhatIsBad();
        testRefusesThe21st();
        testsRelate();
        testsOfAKeyThatIsNotThereReadZero();
        testsAreOfTheLatestRevision();
        stepRefusesThe21stOfEachList();
        dealChoosesTheList();
        dealWithoutEventKeepsTheRevision();
        dealIsOneRevision();
        stepsReadStepsBeforeThem();
        dealRemovesAndSetsAnew();
        dealStartsANewOne();
        fullDealStays();
        dealFillsTheLastRoom();
        fullCountsOnlyRealEvents();
        fullCountsEventsOfStepsBefore();
        CHECK.end("DealsTest");
    }

    private static Object add(RevisionShelf shelf, int what, int relation) {
        shelf.test(1, what, relation, 0);
        return "nothing";
    }

    private static Object addStep(RevisionShelf shelf, boolean first, boolean set) {
        shelf.step(first, 1, set, 0);
        return "nothing";
    }

    private static void testRefusesWhatIsBad() {
        RevisionShelf shelf = new RevisionShelf();
        int[] whats = {-1, 4, Integer.MIN_VALUE, Integer.MAX_VALUE};
        for (int what : whats) {
            CHECK.refuses("test of what " + what, Check.BAD, shelf, () -> add(shelf, what, 0));
        }
        int[] relations = {-2, 2, Integer.MIN_VALUE, Integer.MAX_VALUE};
        for (int relation : relations) {
            CHECK.refuses("test of relation " + relation, Check.BAD, shelf, () -> add(shelf, 0, relation));
        }
    }

    private static void testRefusesThe21st() {
        RevisionShelf shelf = new RevisionShelf();
        for (int i = 0; i < 20; i++) {
            shelf.test(1, i % 4, i % 3 - 1, i);
            CHECK.due("TESTS", shelf.count(3), i + 1);
        }
        CHECK.refuses("the 21st test", Check.REFUSED, shelf, () -> add(shelf, 0, 0));
        CHECK.refuses("the 21st test, bad what", Check.BAD, shelf, () -> add(shelf, 4, 0));
        CHECK.refuses("the 21st test, bad relation", Check.BAD, shelf, () -> add(shelf, 0, 2));
    }

    /** Key 7 comes in revision 2, is set in 3 and 5: VALUE 100, VERSION 3, CREATED 2, SET 5. */
    private static RevisionShelf sample() {
        RevisionShelf shelf = new RevisionShelf();
        shelf.put(1, 1);
        shelf.put(7, 70);
        shelf.put(7, 71);
        shelf.put(1, 2);
        shelf.put(7, 100);
        return shelf;
    }

    private static int dealIf(RevisionShelf shelf, int key, int what, int relation, long v) {
        shelf.test(key, what, relation, v);
        return shelf.deal();
    }

    private static void testsRelate() {
        RevisionShelf shelf = sample();
        long[] held = {100, 3, 2, 5};
        for (int what = 0; what < 4; what++) {
            for (int relation = -1; relation <= 1; relation++) {
                for (int off = -1; off <= 1; off++) {
                    int want = Integer.signum(-off) == relation ? 1 : 2;
                    String name = "deal if " + what + " relates " + relation + " to held and " + off;
                    CHECK.due(name, dealIf(shelf, 7, what, relation, held[what] + off), want);
                }
            }
        }
        CHECK.due("below the largest long", dealIf(shelf, 7, 0, -1, Long.MAX_VALUE), 1);
        CHECK.due("above the least long", dealIf(shelf, 7, 0, 1, Long.MIN_VALUE), 1);
        shelf.put(7, Long.MIN_VALUE);
        CHECK.due("least below largest", dealIf(shelf, 7, 0, -1, Long.MAX_VALUE), 1);
        CHECK.due("least above largest", dealIf(shelf, 7, 0, 1, Long.MAX_VALUE), 2);
        shelf.put(7, 1L << 32);
        CHECK.due("the whole long is compared", dealIf(shelf, 7, 0, 0, 0), 2);
    }

    private static void testsOfAKeyThatIsNotThereReadZero() {
        RevisionShelf shelf = sample();
        shelf.remove(7);
        for (int what = 0; what < 4; what++) {
            CHECK.due("removed, " + what + " equal to 0", dealIf(shelf, 7, what, 0, 0), 1);
            CHECK.due("never there, " + what + " equal to 0", dealIf(shelf, 8, what, 0, 0), 1);
            CHECK.due("removed, " + what + " above 0", dealIf(shelf, 7, what, 1, 0), 2);
            CHECK.due("removed, " + what + " below 0", dealIf(shelf, 7, what, -1, 0), 2);
        }
    }

    private static void testsAreOfTheLatestRevision() {
        RevisionShelf shelf = new RevisionShelf();
        shelf.test(1, 0, 0, 5);
        shelf.put(1, 5);
        CHECK.due("deal by what came behind the test", shelf.deal(), 1);
    }

    private static void stepRefusesThe21stOfEachList() {
        RevisionShelf shelf = new RevisionShelf();
        for (int i = 0; i < 20; i++) {
            shelf.step(true, i, true, i);
            CHECK.due("STEPS of the first list", shelf.count(4), i + 1);
        }
        CHECK.refuses("the 21st set", Check.REFUSED, shelf, () -> addStep(shelf, true, true));
        CHECK.refuses("the 21st removal", Check.REFUSED, shelf, () -> addStep(shelf, true, false));
        for (int i = 0; i < 20; i++) {
            shelf.step(false, i, false, i);
            CHECK.due("STEPS of the second list", shelf.count(5), i + 1);
        }
        CHECK.refuses("the 21st of the second", Check.REFUSED, shelf, () -> addStep(shelf, false, true));
        CHECK.due("no step is done before the deal", shelf.count(0), 0);
    }

    private static void dealChoosesTheList() {
        RevisionShelf shelf = new RevisionShelf();
        CHECK.due("deal without tests", shelf.deal(), 1);
        shelf.put(1, 10);
        chooseLists(shelf);
        shelf.test(1, 0, 0, 10);
        shelf.test(1, 1, 0, 1);
        CHECK.due("deal, all tests hold", shelf.deal(), 1);
        CHECK.due("first list is done", shelf.get(2, 0), 21);
        chooseLists(shelf);
        shelf.test(1, 0, 0, 10);
        shelf.test(1, 1, 0, 2);
        CHECK.due("deal, the last test fails", shelf.deal(), 2);
        CHECK.due("second list is done", shelf.get(2, 0), 22);
        chooseLists(shelf);
        shelf.test(1, 0, 0, 11);
        shelf.test(1, 1, 0, 1);
        CHECK.due("deal, the first test fails", shelf.deal(), 2);
    }

    private static void chooseLists(RevisionShelf shelf) {
        shelf.step(true, 2, true, 21);
        shelf.step(false, 2, true, 22);
    }

    private static void dealWithoutEventKeepsTheRevision() {
        RevisionShelf shelf = sample();
        shelf.step(true, 50, false, 0);
        shelf.step(false, 1, true, 0);
        CHECK.due("deal that removes nothing", shelf.deal(), 1);
        CHECK.same("counts behind it", Check.counts(shelf), "5 0 5 0 0 0 2 ");
    }

    private static void dealIsOneRevision() {
        RevisionShelf shelf = sample();
        shelf.step(true, 1, false, 9);
        shelf.step(true, 3, true, 30);
        shelf.step(true, 50, false, 9);
        shelf.step(true, 2, true, 20);
        CHECK.due("deal", shelf.deal(), 1);
        CHECK.same("counts behind it", Check.counts(shelf), "6 0 8 0 0 0 3 ");
        CHECK.same("its events", events(shelf, 6, 3), "1/6/0 3/6/1 2/6/1 ");
        CHECK.due("get before it", shelf.get(1, 5), 2);
        CHECK.refuses("get behind it", Check.MISSING, shelf, () -> shelf.get(1, 6));
        CHECK.due("put behind it", shelf.put(1, 0), 7);
    }

    private static String events(RevisionShelf shelf, int from, int many) {
        StringBuilder all = new StringBuilder();
        for (int i = 0; i < many; i++) {
            all.append(shelf.event(from, i, 0)).append('/').append(shelf.event(from, i, 1));
            all.append('/').append(shelf.event(from, i, 2)).append(' ');
        }
        return all.toString();
    }

    private static void stepsReadStepsBeforeThem() {
        RevisionShelf shelf = sample();
        shelf.step(true, 7, true, 1);
        shelf.step(true, 7, true, 2);
        shelf.deal();
        CHECK.due("VERSION is 2 more", shelf.state(7, 0, 1), 5);
        CHECK.due("CREATED stays", shelf.state(7, 0, 2), 2);
        CHECK.due("SET", shelf.state(7, 0, 3), 6);
        CHECK.due("VALUE is the last", shelf.get(7, 6), 2);
        CHECK.due("VALUE before", shelf.get(7, 5), 100);
        CHECK.same("two events", events(shelf, 6, 2), "7/6/1 7/6/1 ");
        shelf.step(true, 9, true, 1);
        shelf.step(true, 9, false, 0);
        shelf.step(true, 9, false, 0);
        shelf.deal();
        CHECK.same("set, removed, not there", Check.counts(shelf), "7 0 9 0 0 0 2 ");
        CHECK.due("never seen", shelf.state(9, 7, 1), 0);
        shelf.step(true, 7, false, 0);
        shelf.step(true, 7, false, 0);
        shelf.deal();
        CHECK.same("removed twice, one event", Check.counts(shelf), "8 0 10 0 0 0 1 ");
    }

    private static void dealRemovesAndSetsAnew() {
        RevisionShelf shelf = sample();
        shelf.step(true, 7, false, 0);
        shelf.step(true, 7, true, 5);
        shelf.step(true, 7, true, 6);
        shelf.deal();
        CHECK.due("VERSION", shelf.state(7, 0, 1), 2);
        CHECK.due("CREATED", shelf.state(7, 0, 2), 6);
        CHECK.due("VALUE", shelf.get(7, 0), 6);
        CHECK.due("KEYS", shelf.count(6), 2);
        CHECK.due("many", shelf.many(0, 100, 6), 2);
    }

    private static void dealStartsANewOne() {
        RevisionShelf shelf = new RevisionShelf();
        shelf.test(1, 0, 0, 99);
        shelf.step(true, 1, true, 1);
        shelf.step(false, 2, true, 2);
        CHECK.due("deal", shelf.deal(), 2);
        CHECK.same("counts behind it", Check.counts(shelf), "1 0 1 0 0 0 1 ");
        CHECK.due("the next deal", shelf.deal(), 1);
        CHECK.same("nothing of the old one is done", Check.counts(shelf), "1 0 1 0 0 0 1 ");
        for (int i = 0; i < 20; i++) {
            shelf.step(true, i, true, i);
            shelf.test(i, 0, 1, -1);
        }
        CHECK.same("room for 20 again", Check.counts(shelf), "1 0 1 20 20 0 1 ");
    }

    private static RevisionShelf withEvents(int events) {
        RevisionShelf shelf = new RevisionShelf();
        for (int i = 0; i < events; i++) {
            shelf.put(i % 3, i);
        }
        return shelf;
    }

    private static void fullDealStays() {
        RevisionShelf shelf = withEvents(299);
        shelf.test(1, 0, 1, 1);
        shelf.step(true, 10, true, 1);
        shelf.step(true, 0, false, 1);
        shelf.step(false, 4, true, 1);
        CHECK.refuses("full deal", Check.FULL, shelf, shelf::deal);
        CHECK.same("the deal stays", Check.counts(shelf), "299 0 299 1 2 1 3 ");
        CHECK.refuses("full deal again", Check.FULL, shelf, shelf::deal);
        CHECK.due("the step is not done", shelf.state(10, 0, 1), 0);
        CHECK.due("the key is still there", shelf.get(0, 0), 297);
        CHECK.due("put in the last room", shelf.put(1, 0), 300);
        CHECK.refuses("full by the second list", Check.FULL, shelf, shelf::deal);
        CHECK.same("the deal stays again", Check.counts(shelf), "300 0 300 1 2 1 3 ");
    }

    private static void dealFillsTheLastRoom() {
        RevisionShelf shelf = withEvents(298);
        shelf.step(true, 10, true, 1);
        shelf.step(true, 10, false, 1);
        CHECK.due("deal in the last room", shelf.deal(), 1);
        CHECK.same("counts behind it", Check.counts(shelf), "299 0 300 0 0 0 3 ");
        CHECK.due("deal without steps", shelf.deal(), 1);
    }

    private static void fullCountsOnlyRealEvents() {
        RevisionShelf shelf = withEvents(299);
        shelf.step(true, 50, false, 0);
        shelf.step(true, 0, false, 0);
        shelf.step(true, 0, false, 0);
        for (int i = 0; i < 20; i++) {
            shelf.step(false, i, true, 0);
        }
        CHECK.due("deal of one event", shelf.deal(), 1);
        CHECK.due("EVENTS", shelf.count(2), 300);
        shelf.step(true, 0, false, 0);
        shelf.step(true, 50, false, 0);
        CHECK.due("deal of no event", shelf.deal(), 1);
        CHECK.due("REVISION", shelf.count(0), 300);
    }

    private static void fullCountsEventsOfStepsBefore() {
        RevisionShelf shelf = withEvents(299);
        shelf.step(true, 50, true, 0);
        shelf.step(true, 50, false, 0);
        CHECK.refuses("set and removed are two events", Check.FULL, shelf, shelf::deal);
        RevisionShelf other = withEvents(298);
        other.step(true, 0, false, 0);
        other.step(true, 0, true, 0);
        other.step(true, 0, false, 0);
        CHECK.refuses("removed, set and removed are three", Check.FULL, other, other::deal);
    }
}
