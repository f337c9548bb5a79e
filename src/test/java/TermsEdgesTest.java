/** Each boundary that 'What it is' and 'Terms' name; "a refused call" stands in RefusedCallsTest. */
public final class TermsEdgesTest {
    private static final Check CHECK = new Check();
    private static final int LEAST = Integer.MIN_VALUE;
    private static final int LARGEST = Integer.MAX_VALUE;

    public static void main(String[] args) {
        theLastOf512CallsAnswers();
        keysAreAllInts();
        revisionIs0AtFirst();
        versionIs1AtFirst();
        removedKeyComesAnew();
        removalOfNoKeyIsNoEvent();
        threeHundredPutsAreFull();
        threeHundredWithRemovalsAreFull();
        threeHundredByDealsAreFull();
        fullIsForMoreEventsOnly();
        twentyTestsAreHeldAndDone();
        twentyStepsOfEachListAreHeldAndDone();
        noTestsHold();
        oneTestOfManyFails();
        dealWithoutEventKeepsTheRevision();
        stepReadsStepsBeforeIt();
        keySetTwiceIsTwoEvents();
        keyRemovedAndSetComesAnew();
        newDealIsWithoutAny();
        testsOfNoKeyRead0();
        testsCompareWholeLongs();
        compactedIs0AtFirst();
        readingIsFromTheCompactedOn();
        readingIsUpToTheLatest();
        readingAt0IsTheLatest();
        badIsBeforeRefused();
        badIsBeforeMissing();
        refusedIsBeforeMissing();
        CHECK.end("TermsEdgesTest");
    }

    private static void fill(RevisionShelf shelf, int events) {
        for (int i = 0; i < events; i++) {
            shelf.put(i % 3, i);
        }
    }

    private static String events(RevisionShelf shelf, int from, int many) {
        StringBuilder all = new StringBuilder();
        for (int i = 0; i < many; i++) {
            all.append(shelf.event(from, i, 0)).append('/').append(shelf.event(from, i, 1));
            all.append('/').append(shelf.event(from, i, 2)).append(' ');
        }
        return all.toString();
    }

    private static String stateAt(RevisionShelf shelf, int key, int at) {
        return shelf.state(key, at, 1) + " " + shelf.state(key, at, 2) + " " + shelf.state(key, at, 3);
    }

    private static void theLastOf512CallsAnswers() {
        CHECK.sentence("What it is", "An object is used for at most 512 calls after it has been made");
        RevisionShelf shelf = new RevisionShelf();
        for (int i = 0; i < 511; i++) {
            shelf.count(0);
        }
        CHECK.due("put as the 512th call", shelf.put(1, 1), 1);
        RevisionShelf full = new RevisionShelf();
        fill(full, 300);
        for (int i = 0; i < 211; i++) {
            CHECK.due("get at " + (i + 1), full.get(i % 3, i + 1), i);
        }
        CHECK.due("get as the 512th call", full.get(2, 300), 299);
    }

    private static void keysAreAllInts() {
        CHECK.sentence("Terms", "KEYS: ints.");
        int[] edges = {LEAST, LARGEST, 0, -1};
        for (int key : edges) {
            RevisionShelf shelf = new RevisionShelf();
            CHECK.due("put " + key, shelf.put(key, 5), 1);
            CHECK.due("get " + key, shelf.get(key, 0), 5);
            CHECK.same("state " + key, stateAt(shelf, key, 0), "1 1 1");
            shelf.test(key, 0, 0, 5);
            shelf.step(true, key, true, 6);
            CHECK.due("deal of " + key, shelf.deal(), 1);
            CHECK.due("get behind the deal of " + key, shelf.get(key, 0), 6);
            CHECK.due("remove " + key, shelf.remove(key), 3);
            CHECK.same("events of " + key, events(shelf, 1, 3), key + "/1/1 " + key + "/2/1 " + key + "/3/0 ");
        }
    }

    private static void revisionIs0AtFirst() {
        CHECK.sentence("Terms", "REVISION: 0 at first; each CHANGE makes it one more.");
        RevisionShelf shelf = new RevisionShelf();
        CHECK.due("REVISION of a new object", shelf.count(0), 0);
        shelf.put(1, 0);
        CHECK.due("REVISION behind a put", shelf.count(0), 1);
        shelf.put(1, 0);
        CHECK.due("REVISION behind the same put", shelf.count(0), 2);
        shelf.remove(1);
        CHECK.due("REVISION behind a removal", shelf.count(0), 3);
        shelf.step(true, 1, true, 0);
        CHECK.due("REVISION behind a step", shelf.count(0), 3);
        shelf.deal();
        CHECK.due("REVISION behind a deal", shelf.count(0), 4);
        shelf.compact(4);
        CHECK.due("REVISION behind compact", shelf.count(0), 4);
    }

    private static void versionIs1AtFirst() {
        CHECK.sentence("Terms", "how often it was set since it came (VERSION, 1 then)");
        RevisionShelf shelf = new RevisionShelf();
        for (int i = 1; i <= 100; i++) {
            shelf.put(1, 0);
            CHECK.due("VERSION behind put " + i, shelf.state(1, 0, 1), i);
        }
        CHECK.due("VERSION as it came", shelf.state(1, 1, 1), 1);
    }

    private static void removedKeyComesAnew() {
        CHECK.sentence("Terms", "Removed, it's not there; put again, it comes anew.");
        RevisionShelf shelf = new RevisionShelf();
        shelf.put(1, 10);
        shelf.put(1, 11);
        shelf.remove(1);
        CHECK.same("removed", stateAt(shelf, 1, 0), "0 0 0");
        CHECK.refuses("get of the removed", Check.MISSING, shelf, () -> shelf.get(1, 0));
        CHECK.due("KEYS", shelf.count(6), 0);
        shelf.put(1, 10);
        CHECK.same("put again", stateAt(shelf, 1, 0), "1 4 4");
        CHECK.same("as it was", stateAt(shelf, 1, 2), "2 1 2");
    }

    private static void removalOfNoKeyIsNoEvent() {
        CHECK.sentence("Terms", "EVENTS: each KEY set, or removed that was there");
        RevisionShelf shelf = new RevisionShelf();
        shelf.remove(1);
        CHECK.due("EVENTS behind the removal of a key never there", shelf.count(2), 0);
        shelf.put(1, 0);
        shelf.remove(1);
        shelf.remove(1);
        CHECK.due("EVENTS behind two removals", shelf.count(2), 2);
        shelf.step(true, 1, false, 0);
        shelf.step(true, 2, true, 0);
        shelf.step(true, 1, false, 0);
        shelf.deal();
        CHECK.same("the events", events(shelf, 1, 3), "1/1/1 1/2/0 2/3/1 ");
        CHECK.due("EVENTS behind a deal", shelf.count(2), 3);
    }

    private static void threeHundredPutsAreFull() {
        CHECK.sentence("Terms", "at most 300 in all (more: FULL)");
        RevisionShelf shelf = new RevisionShelf();
        fill(shelf, 299);
        CHECK.due("the 300th event", shelf.put(7, 1), 300);
        CHECK.due("EVENTS", shelf.count(2), 300);
        CHECK.refuses("the 301st", Check.FULL, shelf, () -> shelf.put(7, 2));
        CHECK.refuses("the 301st again", Check.FULL, shelf, () -> shelf.put(8, 2));
        shelf.compact(300);
        CHECK.refuses("the 301st behind compact: 300 in all", Check.FULL, shelf, () -> shelf.put(7, 2));
    }

    private static void threeHundredWithRemovalsAreFull() {
        CHECK.sentence("Terms", "at most 300 in all (more: FULL)");
        RevisionShelf shelf = new RevisionShelf();
        for (int i = 0; i < 149; i++) {
            shelf.put(i, i);
            shelf.remove(i);
        }
        shelf.put(1, 1);
        CHECK.due("a removal as the 300th event", shelf.remove(1), 300);
        CHECK.due("KEYS", shelf.count(6), 0);
        CHECK.refuses("the 301st, no key is there", Check.FULL, shelf, () -> shelf.put(1, 1));
    }

    private static void threeHundredByDealsAreFull() {
        CHECK.sentence("Terms", "at most 300 in all (more: FULL)");
        RevisionShelf shelf = new RevisionShelf();
        for (int i = 0; i < 300; i++) {
            shelf.step(true, i, true, i);
            if (i % 20 == 19) {
                CHECK.due("deal of 20 events", shelf.deal(), 1);
            }
        }
        CHECK.same("counts", Check.counts(shelf), "15 0 300 0 0 0 300 ");
        CHECK.refuses("the 301st in revision 16", Check.FULL, shelf, () -> shelf.put(1, 1));
        CHECK.refuses("a removal as the 301st", Check.FULL, shelf, () -> shelf.remove(1));
    }

    private static void fullIsForMoreEventsOnly() {
        CHECK.sentence("Terms", "at most 300 in all (more: FULL)");
        RevisionShelf shelf = new RevisionShelf();
        fill(shelf, 300);
        CHECK.due("removal of no key", shelf.remove(9), 0);
        CHECK.due("deal without steps", shelf.deal(), 1);
        shelf.step(true, 9, false, 0);
        CHECK.due("deal that removes no key", shelf.deal(), 1);
        CHECK.due("get", shelf.get(2, 0), 299);
        shelf.compact(1);
        CHECK.same("counts", Check.counts(shelf), "300 1 300 0 0 0 3 ");
    }

    /** All 20 are tested: the deal goes by the one that fails, wherever it stands. */
    private static void twentyTestsAreHeldAndDone() {
        CHECK.sentence("Terms", "A DEAL: TESTS, at most 20");
        RevisionShelf shelf = new RevisionShelf();
        shelf.put(1, 10);
        for (int failing = 0; failing <= 20; failing++) {
            for (int i = 0; i < 20; i++) {
                shelf.test(1, 0, 0, i == failing ? 11 : 10);
            }
            CHECK.due("TESTS", shelf.count(3), 20);
            CHECK.due("deal, test " + failing + " fails", shelf.deal(), failing < 20 ? 2 : 1);
        }
    }

    private static void twentyStepsOfEachListAreHeldAndDone() {
        CHECK.sentence("Terms", "two lists of at most 20 STEPS each");
        RevisionShelf shelf = new RevisionShelf();
        for (int list = 1; list <= 2; list++) {
            for (int i = 0; i < 20; i++) {
                shelf.step(true, i, true, 100 + i);
                shelf.step(false, i, true, 200 + i);
            }
            CHECK.due("STEPS of the first list", shelf.count(4), 20);
            CHECK.due("STEPS of the second list", shelf.count(5), 20);
            shelf.test(0, 1, 0, 0);
            CHECK.due("deal", shelf.deal(), list);
            CHECK.due("EVENTS", shelf.count(2), 20 * list);
            for (int i = 0; i < 20; i++) {
                CHECK.due("VALUE of step " + i, shelf.get(i, 0), 100 * list + i);
            }
        }
    }

    private static void noTestsHold() {
        CHECK.sentence("Terms", "the first list's STEPS are done if all TESTS hold (none: so)");
        RevisionShelf shelf = new RevisionShelf();
        CHECK.due("deal of nothing", shelf.deal(), 1);
        shelf.step(true, 1, true, 10);
        shelf.step(false, 1, true, 20);
        CHECK.due("deal without tests", shelf.deal(), 1);
        CHECK.due("VALUE", shelf.get(1, 0), 10);
        shelf.step(false, 1, true, 20);
        CHECK.due("deal without tests or first steps", shelf.deal(), 1);
        CHECK.due("VALUE stays", shelf.get(1, 0), 10);
    }

    private static void oneTestOfManyFails() {
        CHECK.sentence("Terms", "else the second one's");
        RevisionShelf shelf = new RevisionShelf();
        shelf.put(1, 10);
        for (int failing = 0; failing < 3; failing++) {
            for (int i = 0; i < 3; i++) {
                shelf.test(1, 1, i == failing ? 1 : -1, Long.MAX_VALUE);
            }
            shelf.step(true, 2, true, 20);
            shelf.step(false, 3, true, 30 + failing);
            CHECK.due("deal, test " + failing + " fails", shelf.deal(), 2);
            CHECK.due("the second list is done", shelf.get(3, 0), 30 + failing);
            CHECK.due("the first list is not done", shelf.state(2, 0, 1), 0);
        }
    }

    private static void dealWithoutEventKeepsTheRevision() {
        CHECK.sentence("Terms", "all in one REVISION (if there's an EVENT at all, else it stays");
        RevisionShelf shelf = new RevisionShelf();
        shelf.put(1, 10);
        shelf.deal();
        CHECK.due("REVISION behind a deal of nothing", shelf.count(0), 1);
        shelf.step(true, 2, false, 0);
        shelf.step(true, 3, false, 0);
        shelf.step(false, 1, false, 0);
        shelf.deal();
        CHECK.due("REVISION behind a deal that removes no key", shelf.count(0), 1);
        shelf.test(1, 1, 0, 0);
        shelf.step(true, 1, true, 11);
        shelf.deal();
        CHECK.due("REVISION behind a deal by the empty second list", shelf.count(0), 1);
        shelf.step(true, 2, false, 0);
        shelf.step(true, 1, true, 12);
        shelf.step(true, 3, true, 30);
        shelf.deal();
        CHECK.due("REVISION behind a deal of two events", shelf.count(0), 2);
        CHECK.same("events of the one revision", events(shelf, 2, 2), "1/2/1 3/2/1 ");
    }

    private static void stepReadsStepsBeforeIt() {
        CHECK.sentence("Terms", "what a STEP reads are STEPS before it");
        RevisionShelf shelf = new RevisionShelf();
        shelf.step(true, 1, false, 0);
        shelf.step(true, 1, true, 10);
        shelf.step(true, 1, false, 0);
        shelf.step(true, 1, false, 0);
        CHECK.due("deal", shelf.deal(), 1);
        CHECK.same("a step of no key, a set, a removal, a step of no key", events(shelf, 1, 2), "1/1/1 1/1/0 ");
        CHECK.same("counts", Check.counts(shelf), "1 0 2 0 0 0 0 ");
        CHECK.same("not there", stateAt(shelf, 1, 1), "0 0 0");
    }

    private static void keySetTwiceIsTwoEvents() {
        CHECK.sentence("Terms", "a KEY may be set twice, two EVENTS, its VERSION then 2 more");
        RevisionShelf shelf = new RevisionShelf();
        for (int i = 1; i <= 3; i++) {
            shelf.step(true, 1, true, 10 * i);
            shelf.step(true, 1, true, 10 * i + 1);
            shelf.deal();
            CHECK.same("state", stateAt(shelf, 1, 0), 2 * i + " 1 " + i);
            CHECK.due("EVENTS", shelf.count(2), 2 * i);
            CHECK.due("VALUE is the last one's", shelf.get(1, i), 10 * i + 1);
            CHECK.due("KEYS", shelf.many(0, 9, i), 1);
        }
        CHECK.same("its events", events(shelf, 3, 2), "1/3/1 1/3/1 ");
    }

    private static void keyRemovedAndSetComesAnew() {
        CHECK.sentence("Terms", "removed and set, it comes anew");
        RevisionShelf shelf = new RevisionShelf();
        shelf.put(1, 10);
        shelf.put(1, 11);
        shelf.step(true, 1, false, 0);
        shelf.step(true, 1, true, 12);
        shelf.deal();
        CHECK.same("state", stateAt(shelf, 1, 0), "1 3 3");
        CHECK.same("its events", events(shelf, 3, 2), "1/3/0 1/3/1 ");
        CHECK.same("as it was", stateAt(shelf, 1, 2), "2 1 2");
    }

    private static void newDealIsWithoutAny() {
        CHECK.sentence("Terms", "there's a new DEAL without any");
        for (int list = 1; list <= 2; list++) {
            RevisionShelf shelf = new RevisionShelf();
            shelf.test(1, 1, 0, list - 1);
            shelf.step(true, 1, true, 10);
            shelf.step(false, 2, true, 20);
            CHECK.due("deal", shelf.deal(), list);
            CHECK.same("counts", Check.counts(shelf), "1 0 1 0 0 0 1 ");
            CHECK.due("the new deal has no test", shelf.deal(), 1);
            CHECK.same("the new deal has no steps", Check.counts(shelf), "1 0 1 0 0 0 1 ");
            shelf.test(1, 1, 1, 9);
            CHECK.due("the new deal by its second list", shelf.deal(), 2);
            CHECK.same("it has no steps either", Check.counts(shelf), "1 0 1 0 0 0 1 ");
        }
        RevisionShelf none = new RevisionShelf();
        none.test(1, 1, 0, 0);
        none.step(true, 1, false, 0);
        none.step(false, 1, true, 0);
        none.deal();
        CHECK.same("behind a deal without event, too", Check.counts(none), "0 0 0 0 0 0 0 ");
    }

    private static void testsOfNoKeyRead0() {
        CHECK.sentence("Terms", "its VALUE, VERSION, CREATED or SET (0 of one that isn't there)");
        RevisionShelf shelf = new RevisionShelf();
        shelf.put(1, 10);
        shelf.remove(1);
        for (int key = 1; key <= 2; key++) {
            for (int what = 0; what <= 3; what++) {
                for (int relation = -1; relation <= 1; relation++) {
                    shelf.test(key, what, relation, 0);
                    int want = relation == 0 ? 1 : 2;
                    CHECK.due("key " + key + ", " + what + " by " + relation, shelf.deal(), want);
                }
            }
        }
    }

    /** Where a difference of the two, or an int of either, would wrap around. */
    private static void testsCompareWholeLongs() {
        CHECK.sentence("Terms", "is below, equal to, or above a long");
        long[] edges = {Long.MIN_VALUE, Long.MIN_VALUE + 1, -1L << 32, -1, 0, 1, 1L << 32, Long.MAX_VALUE - 1, Long.MAX_VALUE};
        for (long held : edges) {
            RevisionShelf shelf = new RevisionShelf();
            shelf.put(1, held);
            for (long v : edges) {
                for (int relation = -1; relation <= 1; relation++) {
                    shelf.test(1, 0, relation, v);
                    int want = Long.compare(held, v) == relation ? 1 : 2;
                    CHECK.due(held + " by " + relation + " to " + v, shelf.deal(), want);
                }
            }
        }
        RevisionShelf shelf = new RevisionShelf();
        shelf.put(1, 0);
        for (int what = 1; what <= 3; what++) {
            shelf.test(1, what, 0, (1L << 32) + 1);
            CHECK.due(what + " equal to a long that is 1 as an int", shelf.deal(), 2);
        }
    }

    private static void compactedIs0AtFirst() {
        CHECK.sentence("Terms", "COMPACTED: a REVISION, 0 at first");
        RevisionShelf shelf = new RevisionShelf();
        CHECK.due("COMPACTED of a new object", shelf.count(1), 0);
        shelf.put(1, 10);
        shelf.put(1, 11);
        CHECK.due("COMPACTED behind puts", shelf.count(1), 0);
        CHECK.due("get at 1", shelf.get(1, 1), 10);
        CHECK.due("event from 1", shelf.event(1, 0, 0), 1);
    }

    /** Revision i puts key i. */
    private static RevisionShelf sixRevisions() {
        RevisionShelf shelf = new RevisionShelf();
        for (int i = 1; i <= 6; i++) {
            shelf.put(i, 10 * i);
        }
        return shelf;
    }

    private static void readsAt(RevisionShelf shelf, int at, int latest) {
        CHECK.due("get at " + at, shelf.get(1, at), 10);
        CHECK.due("state at " + at, shelf.state(1, at, 1), 1);
        CHECK.due("many at " + at, shelf.many(0, 9, at), latest);
        CHECK.due("key at " + at, shelf.key(0, 9, at, latest - 1), latest);
    }

    private static void refusesAt(RevisionShelf shelf, int at) {
        CHECK.refuses("get at " + at, Check.REFUSED, shelf, () -> shelf.get(1, at));
        CHECK.refuses("state at " + at, Check.REFUSED, shelf, () -> shelf.state(1, at, 1));
        CHECK.refuses("many at " + at, Check.REFUSED, shelf, () -> shelf.many(0, 9, at));
        CHECK.refuses("key at " + at, Check.REFUSED, shelf, () -> shelf.key(0, 9, at, 0));
    }

    private static void readingIsFromTheCompactedOn() {
        CHECK.sentence("Terms", "READING is done at a REVISION from COMPACTED (itself, too)");
        RevisionShelf shelf = sixRevisions();
        int[] steps = {1, 3, 6};
        for (int compacted : steps) {
            shelf.compact(compacted);
            for (int at = 1; at < compacted; at++) {
                refusesAt(shelf, at);
            }
            for (int at = compacted; at <= 6; at++) {
                readsAt(shelf, at, at);
            }
        }
    }

    private static void readingIsUpToTheLatest() {
        CHECK.sentence("Terms", "to the latest (0: the latest), else it's REFUSED");
        RevisionShelf shelf = sixRevisions();
        readsAt(shelf, 6, 6);
        refusesAt(shelf, 7);
        refusesAt(shelf, LARGEST);
        RevisionShelf none = new RevisionShelf();
        refusesAt(none, 1);
        refusesAt(none, LARGEST);
    }

    private static void readingAt0IsTheLatest() {
        CHECK.sentence("Terms", "(0: the latest)");
        RevisionShelf shelf = sixRevisions();
        readsAt(shelf, 0, 6);
        shelf.compact(3);
        readsAt(shelf, 0, 6);
        shelf.compact(6);
        readsAt(shelf, 0, 6);
        shelf.put(7, 0);
        readsAt(shelf, 0, 7);
        RevisionShelf none = new RevisionShelf();
        CHECK.due("state of a new object at 0", none.state(1, 0, 1), 0);
        CHECK.due("many of a new object at 0", none.many(LEAST, LARGEST, 0), 0);
    }

    private static void badIsBeforeRefused() {
        CHECK.sentence("Terms", "in this order");
        RevisionShelf shelf = sixRevisions();
        shelf.compact(3);
        for (int i = 0; i < 20; i++) {
            shelf.test(1, 0, 0, 0);
        }
        CHECK.refuses("the 21st test, bad what", Check.BAD, shelf, () -> shelf.test(1, 4, 0, 0));
        CHECK.refuses("the 21st test, bad relation", Check.BAD, shelf, () -> shelf.test(1, 0, 2, 0));
        CHECK.refuses("state above the latest, bad what", Check.BAD, shelf, () -> shelf.state(1, 7, 0));
        CHECK.refuses("state before the compacted, bad what", Check.BAD, shelf, () -> shelf.state(1, 2, 4));
        CHECK.refuses("compact at 0, below the compacted", Check.BAD, shelf, () -> shelf.compact(0));
        CHECK.refuses("compact at -1, below the compacted", Check.BAD, shelf, () -> shelf.compact(-1));
        CHECK.refuses("event from 0, below the compacted", Check.BAD, shelf, () -> shelf.event(0, 0, 0));
        CHECK.refuses("event from the compacted, bad what", Check.BAD, shelf, () -> shelf.event(3, 0, 3));
    }

    private static void badIsBeforeMissing() {
        CHECK.sentence("Terms", "in this order");
        RevisionShelf shelf = sixRevisions();
        CHECK.refuses("get of no key at -1", Check.BAD, shelf, () -> shelf.get(9, -1));
        CHECK.refuses("state of no key, bad what", Check.BAD, shelf, () -> shelf.state(9, 0, 4));
        CHECK.refuses("key of no number at -1", Check.BAD, shelf, () -> shelf.key(0, 9, -1, -1));
        CHECK.refuses("event of no number, bad what", Check.BAD, shelf, () -> shelf.event(1, -1, 3));
        CHECK.refuses("event of no number, bad from", Check.BAD, shelf, () -> shelf.event(0, 99, 0));
        CHECK.refuses("event above the latest, bad what", Check.BAD, shelf, () -> shelf.event(7, 0, -1));
    }

    private static void refusedIsBeforeMissing() {
        CHECK.sentence("Terms", "in this order");
        RevisionShelf shelf = sixRevisions();
        shelf.compact(3);
        CHECK.refuses("get of no key above the latest", Check.REFUSED, shelf, () -> shelf.get(9, 7));
        CHECK.refuses("get of no key before the compacted", Check.REFUSED, shelf, () -> shelf.get(9, 2));
        CHECK.refuses("key of no number above the latest", Check.REFUSED, shelf, () -> shelf.key(0, 9, 7, 99));
        CHECK.refuses("key of no number before the compacted", Check.REFUSED, shelf, () -> shelf.key(0, 9, 2, -1));
        CHECK.refuses("event of no number from the compacted", Check.REFUSED, shelf, () -> shelf.event(3, 99, 0));
    }
}
