/** Promises 1 to 3: a new object, put, remove. */
public final class ChangesTest {
    private static final Check CHECK = new Check();

    public static void main(String[] args) {
        newObjectHasNothing();
        newObjectsShareNothing();
        putSetsAndMakesARevision();
        putTakesEveryKeyAndValue();
        putIsFullBehind300Events();
        removeTakesAwayAndMakesARevision();
        removedKeyComesAnew();
        removeIsFullOnlyForAKeyThatIsThere();
        CHECK.end("ChangesTest");
    }

    private static void newObjectHasNothing() {
        RevisionShelf shelf = new RevisionShelf();
        CHECK.same("counts of a new object", Check.counts(shelf), "0 0 0 0 0 0 0 ");
        CHECK.due("many of a new object", shelf.many(Integer.MIN_VALUE, Integer.MAX_VALUE, 0), 0);
        CHECK.due("state of a new object", shelf.state(0, 0, 1), 0);
        CHECK.refuses("get of a new object", Check.MISSING, shelf, () -> shelf.get(0, 0));
        CHECK.refuses("key of a new object", Check.MISSING, shelf, () -> shelf.key(-9, 9, 0, 0));
        CHECK.refuses("event of a new object", Check.MISSING, shelf, () -> shelf.event(1, 0, 0));
    }

    private static void newObjectsShareNothing() {
        RevisionShelf one = new RevisionShelf();
        RevisionShelf other = new RevisionShelf();
        one.put(1, 1);
        one.step(true, 1, true, 1);
        CHECK.same("counts of the other object", Check.counts(other), "0 0 0 0 0 0 0 ");
    }

    private static void putSetsAndMakesARevision() {
        RevisionShelf shelf = new RevisionShelf();
        CHECK.due("first put", shelf.put(5, 50), 1);
        CHECK.due("put of another key", shelf.put(6, 60), 2);
        CHECK.due("put of a key that's there", shelf.put(5, 51), 3);
        CHECK.due("put of the same value", shelf.put(5, 51), 4);
        CHECK.due("VALUE", shelf.get(5, 0), 51);
        CHECK.due("VERSION", shelf.state(5, 0, 1), 3);
        CHECK.due("CREATED", shelf.state(5, 0, 2), 1);
        CHECK.due("SET", shelf.state(5, 0, 3), 4);
        CHECK.due("VALUE of the other key", shelf.get(6, 0), 60);
        CHECK.due("VERSION of the other key", shelf.state(6, 0, 1), 1);
        CHECK.due("REVISION", shelf.count(0), 4);
        CHECK.due("EVENTS", shelf.count(2), 4);
        CHECK.due("KEYS", shelf.count(6), 2);
    }

    private static void putTakesEveryKeyAndValue() {
        RevisionShelf shelf = new RevisionShelf();
        int[] keys = {0, -1, Integer.MIN_VALUE, Integer.MAX_VALUE};
        long[] values = {0, -1, Long.MIN_VALUE, Long.MAX_VALUE};
        for (int i = 0; i < keys.length; i++) {
            CHECK.due("put of key " + keys[i], shelf.put(keys[i], values[i]), i + 1);
        }
        for (int i = 0; i < keys.length; i++) {
            CHECK.due("get of key " + keys[i], shelf.get(keys[i], 0), values[i]);
        }
        CHECK.due("KEYS", shelf.count(6), 4);
    }

    private static void putIsFullBehind300Events() {
        RevisionShelf shelf = filled(7);
        CHECK.due("EVENTS", shelf.count(2), 300);
        CHECK.refuses("put of a new key", Check.FULL, shelf, () -> shelf.put(99, 1));
        CHECK.refuses("put of a key that's there", Check.FULL, shelf, () -> shelf.put(0, 1));
        CHECK.due("VALUE behind it", shelf.get(0, 0), 294);
        shelf.compact(300);
        CHECK.refuses("put behind compact", Check.FULL, shelf, () -> shelf.put(0, 1));
    }

    private static void removeTakesAwayAndMakesARevision() {
        RevisionShelf shelf = new RevisionShelf();
        CHECK.due("remove of a key never put", shelf.remove(1), 0);
        CHECK.due("REVISION behind it", shelf.count(0), 0);
        shelf.put(1, 10);
        shelf.put(2, 20);
        CHECK.due("remove", shelf.remove(1), 3);
        CHECK.due("remove again", shelf.remove(1), 0);
        CHECK.due("REVISION", shelf.count(0), 3);
        CHECK.due("EVENTS", shelf.count(2), 3);
        CHECK.due("KEYS", shelf.count(6), 1);
        CHECK.refuses("get of the removed key", Check.MISSING, shelf, () -> shelf.get(1, 0));
        CHECK.due("get of what it was", shelf.get(1, 2), 10);
        CHECK.due("get of the other key", shelf.get(2, 0), 20);
    }

    private static void removedKeyComesAnew() {
        RevisionShelf shelf = new RevisionShelf();
        shelf.put(1, 10);
        shelf.put(1, 11);
        shelf.remove(1);
        CHECK.due("put of a removed key", shelf.put(1, 12), 4);
        CHECK.due("VERSION", shelf.state(1, 0, 1), 1);
        CHECK.due("CREATED", shelf.state(1, 0, 2), 4);
        CHECK.due("VERSION before", shelf.state(1, 2, 1), 2);
        CHECK.due("VERSION between", shelf.state(1, 3, 1), 0);
    }

    private static void removeIsFullOnlyForAKeyThatIsThere() {
        RevisionShelf shelf = filled(7);
        CHECK.refuses("remove", Check.FULL, shelf, () -> shelf.remove(3));
        CHECK.due("KEY is still there", shelf.state(3, 0, 1), 43);
        CHECK.due("remove of a key that isn't there", shelf.remove(99), 0);
    }

    /** 300 puts, of keys 0 to keys - 1 in turn. */
    private static RevisionShelf filled(int keys) {
        RevisionShelf shelf = new RevisionShelf();
        for (int i = 0; i < 300; i++) {
            CHECK.due("put number " + i, shelf.put(i % keys, i), i + 1);
        }
        return shelf;
    }
}
