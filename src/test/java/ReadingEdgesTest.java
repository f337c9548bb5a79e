/** Each boundary that promises 7 to 13 name: get, state, many, key, compact, event, count. */
public final class ReadingEdgesTest {
    private static final Check CHECK = new Check();
    private static final int LEAST = Integer.MIN_VALUE;
    private static final int LARGEST = Integer.MAX_VALUE;

    public static void main(String[] args) {
        getIsMissingWhenNotThereThen();
        readingsBelow0AreBad();
        stateIs0WhenNotThere();
        stateOfNoSuchWhatIsBad();
        manyIsFromLowOnBelowHigh();
        manyOfTheEdgesOfInt();
        manyOfNoRangeIs0();
        keyIsNumberedFrom0();
        keyOfNoSuchNumberIsMissing();
        keyOfTheEdgesOfInt();
        keyOfNoRangeIsMissing();
        compactBelow1IsBad();
        compactAboveTheLatestIsBad();
        compactOfANewObjectIsBad();
        compactTakes1AndTheLatest();
        compactNotAboveIsRefused();
        compactLeavesAllElse();
        eventIsNumberedFrom0();
        eventFromBelow1IsBad();
        eventFromTheCompactedIsRefused();
        eventFromAboveTheLatestIsMissing();
        eventOfNoSuchNumberIsMissing();
        eventOfNoSuchWhatIsBad();
        countOfNoSuchWhatIsMinus1();
        countsAtTheirMost();
        CHECK.end("ReadingEdgesTest");
    }

    /** 1: put 5; 2: put 3; 3: put 5; 4: remove 5; 5: put -8; 6: put 5. */
    private static RevisionShelf sample() {
        RevisionShelf shelf = new RevisionShelf();
        shelf.put(5, 10);
        shelf.put(3, 0);
        shelf.put(5, 30);
        shelf.remove(5);
        shelf.put(-8, 50);
        shelf.put(5, 60);
        return shelf;
    }

    private static void getIsMissingWhenNotThereThen() {
        CHECK.sentence("Promise 7", "Not there then: missing.");
        RevisionShelf shelf = sample();
        CHECK.refuses("one revision before it came", Check.MISSING, shelf, () -> shelf.get(3, 1));
        CHECK.due("in the revision in which it came, VALUE 0", shelf.get(3, 2), 0);
        CHECK.due("one revision before it's removed", shelf.get(5, 3), 30);
        CHECK.refuses("in the revision in which it's removed", Check.MISSING, shelf, () -> shelf.get(5, 4));
        CHECK.refuses("one revision before it comes anew", Check.MISSING, shelf, () -> shelf.get(5, 5));
        CHECK.due("in the revision in which it comes anew", shelf.get(5, 6), 60);
        CHECK.refuses("never there", Check.MISSING, shelf, () -> shelf.get(4, 0));
        shelf.compact(5);
        CHECK.refuses("not there at the compacted", Check.MISSING, shelf, () -> shelf.get(5, 5));
    }

    private static void readingsBelow0AreBad() {
        CHECK.sentence("Promise 7", "A revision below 0: bad (here and in what follows).");
        RevisionShelf shelf = sample();
        for (int at : new int[] {-1, LEAST}) {
            CHECK.refuses("get", Check.BAD, shelf, () -> shelf.get(5, at));
            CHECK.refuses("state", Check.BAD, shelf, () -> shelf.state(5, at, 1));
            CHECK.refuses("many", Check.BAD, shelf, () -> shelf.many(0, 9, at));
            CHECK.refuses("key", Check.BAD, shelf, () -> shelf.key(0, 9, at, 0));
            CHECK.refuses("compact", Check.BAD, shelf, () -> shelf.compact(at));
            CHECK.refuses("event", Check.BAD, shelf, () -> shelf.event(at, 0, 0));
        }
        RevisionShelf none = new RevisionShelf();
        CHECK.refuses("get of a new object", Check.BAD, none, () -> none.get(5, -1));
        CHECK.refuses("state of a new object", Check.BAD, none, () -> none.state(5, -1, 1));
        CHECK.refuses("many of a new object", Check.BAD, none, () -> none.many(0, 9, -1));
        CHECK.refuses("key of a new object", Check.BAD, none, () -> none.key(0, 9, -1, 0));
    }

    private static void stateIs0WhenNotThere() {
        CHECK.sentence("Promise 8", "0 if it isn't there");
        RevisionShelf shelf = sample();
        for (int what = 1; what <= 3; what++) {
            CHECK.due("one revision before it came", shelf.state(3, 1, what), 0);
            CHECK.due("in the revision in which it's removed", shelf.state(5, 4, what), 0);
            CHECK.due("never there", shelf.state(4, 0, what), 0);
            CHECK.due("of a new object", new RevisionShelf().state(4, 0, what), 0);
        }
    }

    private static void stateOfNoSuchWhatIsBad() {
        CHECK.sentence("Promise 8", "VERSION (1), CREATED (2), SET (3) of the KEY");
        RevisionShelf shelf = sample();
        for (int what : new int[] {0, 4, -1, LEAST, LARGEST}) {
            CHECK.refuses("state of " + what, Check.BAD, shelf, () -> shelf.state(5, 0, what));
        }
        CHECK.due("the least what", shelf.state(5, 3, 1), 2);
        CHECK.due("the one between", shelf.state(5, 3, 2), 1);
        CHECK.due("the largest what", shelf.state(5, 3, 3), 3);
    }

    private static void manyIsFromLowOnBelowHigh() {
        CHECK.sentence("Promise 9", "how many KEYS are there from low on, below high");
        RevisionShelf shelf = sample();
        CHECK.due("low is a key", shelf.many(3, 9, 0), 2);
        CHECK.due("low is one above a key", shelf.many(4, 9, 0), 1);
        CHECK.due("high is a key", shelf.many(-9, 5, 0), 2);
        CHECK.due("high is one above a key", shelf.many(-9, 6, 0), 3);
        CHECK.due("just one key", shelf.many(3, 4, 0), 1);
        CHECK.due("as it was", shelf.many(-9, 9, 4), 1);
        CHECK.due("of an empty store", new RevisionShelf().many(-9, 9, 0), 0);
    }

    private static void manyOfTheEdgesOfInt() {
        CHECK.sentence("Promise 9", "from low on, below high");
        RevisionShelf shelf = new RevisionShelf();
        shelf.put(LARGEST, 1);
        shelf.put(LEAST, 1);
        shelf.put(LARGEST - 1, 1);
        CHECK.due("the largest int is below no high", shelf.many(LEAST, LARGEST, 0), 2);
        CHECK.due("from the largest int on", shelf.many(LARGEST, LARGEST, 0), 0);
        CHECK.due("below the least int", shelf.many(LEAST, LEAST, 0), 0);
        CHECK.due("the least int", shelf.many(LEAST, LEAST + 1, 0), 1);
        CHECK.due("without the least int", shelf.many(LEAST + 1, LARGEST, 0), 1);
        CHECK.due("KEYS", shelf.count(6), 3);
    }

    private static void manyOfNoRangeIs0() {
        CHECK.sentence("Promise 9", "from low on, below high");
        RevisionShelf shelf = sample();
        CHECK.due("low is high", shelf.many(3, 3, 0), 0);
        CHECK.due("low above high", shelf.many(9, -9, 0), 0);
        CHECK.due("low far above high", shelf.many(LARGEST, LEAST, 0), 0);
    }

    private static void keyIsNumberedFrom0() {
        CHECK.sentence("Promise 10", "the KEY number i of those");
        RevisionShelf shelf = sample();
        int[] keys = {-8, 3, 5};
        for (int i = 0; i < 3; i++) {
            CHECK.due("key " + i, shelf.key(-9, 9, 0, i), keys[i]);
        }
        CHECK.due("key 0, low is a key", shelf.key(3, 9, 0, 0), 3);
        CHECK.due("key 0, low is one above a key", shelf.key(4, 9, 0, 0), 5);
        CHECK.due("key 0 as it was", shelf.key(-9, 9, 1, 0), 5);
    }

    private static void keyOfNoSuchNumberIsMissing() {
        CHECK.sentence("Promise 10", "Not there: missing.");
        RevisionShelf shelf = sample();
        for (int i : new int[] {-1, 3, LEAST, LARGEST}) {
            CHECK.refuses("key " + i, Check.MISSING, shelf, () -> shelf.key(-9, 9, 0, i));
        }
        CHECK.refuses("key 2, high is a key", Check.MISSING, shelf, () -> shelf.key(-9, 5, 0, 2));
        CHECK.refuses("key 1 as it was", Check.MISSING, shelf, () -> shelf.key(-9, 9, 4, 1));
        RevisionShelf none = new RevisionShelf();
        CHECK.refuses("key 0 of an empty store", Check.MISSING, none, () -> none.key(-9, 9, 0, 0));
        none.put(1, 1);
        none.remove(1);
        CHECK.refuses("key 0 of a store emptied", Check.MISSING, none, () -> none.key(-9, 9, 0, 0));
    }

    /** Where a difference of two keys would wrap around. */
    private static void keyOfTheEdgesOfInt() {
        CHECK.sentence("Promise 10", "the KEY number i of those");
        RevisionShelf shelf = new RevisionShelf();
        shelf.put(LARGEST - 1, 1);
        shelf.put(LEAST, 1);
        shelf.put(0, 1);
        shelf.put(LARGEST, 1);
        CHECK.due("key 0", shelf.key(LEAST, LARGEST, 0, 0), LEAST);
        CHECK.due("key 1", shelf.key(LEAST, LARGEST, 0, 1), 0);
        CHECK.due("key 2", shelf.key(LEAST, LARGEST, 0, 2), LARGEST - 1);
        CHECK.refuses("key 3", Check.MISSING, shelf, () -> shelf.key(LEAST, LARGEST, 0, 3));
    }

    private static void keyOfNoRangeIsMissing() {
        CHECK.sentence("Promise 10", "Not there: missing.");
        RevisionShelf shelf = sample();
        CHECK.refuses("low is high", Check.MISSING, shelf, () -> shelf.key(3, 3, 0, 0));
        CHECK.refuses("low above high", Check.MISSING, shelf, () -> shelf.key(9, -9, 0, 0));
        CHECK.refuses("low far above high", Check.MISSING, shelf, () -> shelf.key(LARGEST, LEAST, 0, 0));
    }

    private static void compactBelow1IsBad() {
        CHECK.sentence("Promise 11", "COMPACTED is a REVISION, 1 .. the latest (else bad)");
        RevisionShelf shelf = sample();
        for (int at : new int[] {0, -1, LEAST}) {
            CHECK.refuses("compact " + at, Check.BAD, shelf, () -> shelf.compact(at));
        }
        shelf.compact(2);
        CHECK.refuses("compact 0 behind compact 2", Check.BAD, shelf, () -> shelf.compact(0));
    }

    private static void compactAboveTheLatestIsBad() {
        CHECK.sentence("Promise 11", "1 .. the latest (else bad)");
        RevisionShelf shelf = sample();
        for (int at : new int[] {7, LARGEST}) {
            CHECK.refuses("compact " + at, Check.BAD, shelf, () -> shelf.compact(at));
        }
        shelf.compact(6);
        CHECK.refuses("compact 7 behind compact 6", Check.BAD, shelf, () -> shelf.compact(7));
        shelf.put(1, 1);
        shelf.compact(7);
        CHECK.due("COMPACTED, 7 being the latest", shelf.count(1), 7);
    }

    private static void compactOfANewObjectIsBad() {
        CHECK.sentence("Promise 11", "1 .. the latest (else bad)");
        RevisionShelf shelf = new RevisionShelf();
        for (int at : new int[] {0, 1, -1}) {
            CHECK.refuses("compact " + at, Check.BAD, shelf, () -> shelf.compact(at));
        }
    }

    private static void compactTakes1AndTheLatest() {
        CHECK.sentence("Promise 11", "COMPACTED is a REVISION, 1 .. the latest");
        RevisionShelf shelf = sample();
        shelf.compact(1);
        CHECK.due("COMPACTED", shelf.count(1), 1);
        CHECK.due("get at 1", shelf.get(5, 1), 10);
        shelf.compact(6);
        CHECK.due("COMPACTED", shelf.count(1), 6);
        CHECK.due("get at 6", shelf.get(5, 6), 60);
    }

    private static void compactNotAboveIsRefused() {
        CHECK.sentence("Promise 11", "not above what it is: REFUSED");
        RevisionShelf shelf = sample();
        shelf.compact(3);
        for (int at : new int[] {3, 2, 1}) {
            CHECK.refuses("compact " + at, Check.REFUSED, shelf, () -> shelf.compact(at));
        }
        shelf.compact(4);
        CHECK.due("COMPACTED, one above what it was", shelf.count(1), 4);
        CHECK.refuses("compact 4 again", Check.REFUSED, shelf, () -> shelf.compact(4));
    }

    private static void compactLeavesAllElse() {
        CHECK.sentence("Promise 11", "COMPACTED is a REVISION");
        RevisionShelf shelf = sample();
        shelf.test(5, 0, 0, 60);
        shelf.step(true, 5, false, 0);
        shelf.step(false, 3, false, 0);
        shelf.compact(6);
        CHECK.same("counts", Check.counts(shelf), "6 6 6 1 1 1 3 ");
        CHECK.due("a key set before the compacted", shelf.state(3, 6, 3), 2);
        CHECK.due("deal", shelf.deal(), 1);
        CHECK.due("event above the compacted", shelf.event(7, 0, 0), 5);
    }

    private static void eventIsNumberedFrom0() {
        CHECK.sentence("Promise 12", "EVENT i (from 0) of those in REVISIONS from a one on");
        RevisionShelf shelf = sample();
        int[] keys = {5, 3, 5, 5, -8, 5};
        for (int from = 1; from <= 6; from++) {
            for (int i = 0; from + i <= 6; i++) {
                String name = "event " + i + " from " + from;
                CHECK.due(name + ", KEY", shelf.event(from, i, 0), keys[from + i - 1]);
                CHECK.due(name + ", REVISION", shelf.event(from, i, 1), from + i);
                CHECK.due(name + ", kind", shelf.event(from, i, 2), from + i == 4 ? 0 : 1);
            }
        }
    }

    private static void eventFromBelow1IsBad() {
        CHECK.sentence("Promise 12", "(1 or more, else bad");
        RevisionShelf shelf = sample();
        for (int from : new int[] {0, -1, LEAST}) {
            CHECK.refuses("event from " + from, Check.BAD, shelf, () -> shelf.event(from, 0, 0));
        }
        shelf.compact(2);
        CHECK.refuses("event from 0 behind compact", Check.BAD, shelf, () -> shelf.event(0, 0, 0));
        RevisionShelf none = new RevisionShelf();
        CHECK.refuses("event from 0 of a new object", Check.BAD, none, () -> none.event(0, 0, 0));
    }

    private static void eventFromTheCompactedIsRefused() {
        CHECK.sentence("Promise 12", "above COMPACTED, else REFUSED");
        RevisionShelf shelf = sample();
        shelf.compact(3);
        for (int from : new int[] {1, 2, 3}) {
            CHECK.refuses("event from " + from, Check.REFUSED, shelf, () -> shelf.event(from, 0, 0));
        }
        CHECK.due("one above the compacted", shelf.event(4, 0, 1), 4);
        shelf.compact(6);
        CHECK.refuses("from the latest, compacted", Check.REFUSED, shelf, () -> shelf.event(6, 0, 0));
    }

    private static void eventFromAboveTheLatestIsMissing() {
        CHECK.sentence("Promise 12", "above the latest there are none");
        RevisionShelf shelf = sample();
        CHECK.due("from the latest", shelf.event(6, 0, 1), 6);
        for (int from : new int[] {7, 8, LARGEST}) {
            CHECK.refuses("event from " + from, Check.MISSING, shelf, () -> shelf.event(from, 0, 0));
        }
        shelf.compact(6);
        CHECK.refuses("event from 7, 6 compacted", Check.MISSING, shelf, () -> shelf.event(7, 0, 0));
        RevisionShelf none = new RevisionShelf();
        CHECK.refuses("event from 1 of a new object", Check.MISSING, none, () -> none.event(1, 0, 0));
    }

    /** From 3 on the events start at the third, so the largest i wraps around if it's added to. */
    private static void eventOfNoSuchNumberIsMissing() {
        CHECK.sentence("Promise 12", "Not there: missing.");
        RevisionShelf shelf = sample();
        for (int i : new int[] {4, 5, 6, -1, -2, LEAST, LARGEST, LARGEST - 1}) {
            CHECK.refuses("event " + i + " from 3", Check.MISSING, shelf, () -> shelf.event(3, i, 0));
        }
        CHECK.refuses("event 6 from 1", Check.MISSING, shelf, () -> shelf.event(1, 6, 0));
        CHECK.refuses("event 1 from 6", Check.MISSING, shelf, () -> shelf.event(6, 1, 0));
        RevisionShelf full = new RevisionShelf();
        for (int i = 0; i < 300; i++) {
            full.put(i, i);
        }
        CHECK.due("event 299 of a full store", full.event(1, 299, 0), 299);
        CHECK.refuses("event 300 of a full store", Check.MISSING, full, () -> full.event(1, 300, 0));
        CHECK.refuses("event from 301 of a full store", Check.MISSING, full, () -> full.event(301, 0, 0));
    }

    private static void eventOfNoSuchWhatIsBad() {
        CHECK.sentence("Promise 12", "its KEY (what 0), REVISION (1), 1 if it was set, 0 removed (2)");
        RevisionShelf shelf = sample();
        for (int what : new int[] {-1, 3, LEAST, LARGEST}) {
            CHECK.refuses("event, " + what, Check.BAD, shelf, () -> shelf.event(1, 0, what));
        }
    }

    private static void countOfNoSuchWhatIsMinus1() {
        CHECK.sentence("Promise 13", "else -1");
        for (int what : new int[] {-1, 7, 8, LEAST, LARGEST}) {
            CHECK.due("count " + what, sample().count(what), -1);
            CHECK.due("count " + what + " of a new object", new RevisionShelf().count(what), -1);
        }
    }

    private static void countsAtTheirMost() {
        CHECK.sentence("Promise 13", "REVISION (0), COMPACTED (1), EVENTS in all (2)");
        RevisionShelf shelf = new RevisionShelf();
        for (int i = 0; i < 300; i++) {
            shelf.put(i, i);
        }
        shelf.compact(299);
        for (int i = 0; i < 20; i++) {
            shelf.test(1, 0, 0, 0);
            shelf.step(true, 1, true, 0);
            shelf.step(false, 1, true, 0);
        }
        CHECK.same("counts", Check.counts(shelf), "300 299 300 20 20 20 300 ");
    }
}
