import java.util.NoSuchElementException;

/**
 * A store that keeps what was: each change makes a revision, what a key held at each can be read
 * till it's compacted, changes can be gone through, several are one if tests hold.
 */
public final class RevisionShelf {
    private static final int MOST_EVENTS = 300;
    private static final int MOST_TESTS = 20;
    private static final int MOST_STEPS = 20;

    private static final int VALUE = 0;
    private static final int VERSION = 1;
    private static final int CREATED = 2;
    private static final int SET = 3;

    private static final int EVENT_KEY = 0;
    private static final int EVENT_REVISION = 1;
    private static final int EVENT_KIND = 2;

    private static final int NONE = -1;

    private final EventLog log;
    private final TestList tests;
    private final StepList firstSteps;
    private final StepList secondSteps;
    private int compacted;

    public RevisionShelf() {
        log = new EventLog();
        tests = new TestList();
        firstSteps = new StepList();
        secondSteps = new StepList();
        compacted = 0;
    }

    public int put(int key, long value) throws IndexOutOfBoundsException {
        refuseIfFull(1);
        log.openRevision();
        log.appendSet(key, value);
        return log.revision;
    }

    public int remove(int key) throws IndexOutOfBoundsException {
        if (!log.isThere(key)) {
            return 0;
        }
        refuseIfFull(1);
        log.openRevision();
        log.appendRemoval(key);
        return log.revision;
    }

    public void test(int key, int what, int relation, long v)
            throws IllegalArgumentException, IllegalStateException {
        if (what < VALUE || what > SET || relation < -1 || relation > 1) {
            throw new IllegalArgumentException();
        }
        if (tests.size >= MOST_TESTS) {
            throw new IllegalStateException();
        }
        tests.append(key, what, relation, v);
    }

    public void step(boolean first, int key, boolean set, long value)
            throws IllegalStateException {
        StepList steps = first ? firstSteps : secondSteps;
        if (steps.size >= MOST_STEPS) {
            throw new IllegalStateException();
        }
        steps.append(key, set, value);
    }

    public int deal() throws IndexOutOfBoundsException {
        boolean first = tests.allHold(log);
        StepList steps = first ? firstSteps : secondSteps;
        int events = steps.eventsOn(log);
        refuseIfFull(events);
        if (events > 0) {
            log.openRevision();
            steps.applyTo(log);
        }
        tests.clear();
        firstSteps.clear();
        secondSteps.clear();
        return first ? 1 : 2;
    }

    public long get(int key, int revision)
            throws IllegalArgumentException, IllegalStateException, NoSuchElementException {
        int event = log.find(key, readingRevision(revision));
        if (event == NONE) {
            throw new NoSuchElementException();
        }
        return log.values[event];
    }

    public int state(int key, int revision, int what)
            throws IllegalArgumentException, IllegalStateException {
        if (what < VERSION || what > SET) {
            throw new IllegalArgumentException();
        }
        return (int) log.read(key, readingRevision(revision), what);
    }

    public int many(int low, int high, int revision)
            throws IllegalArgumentException, IllegalStateException {
        return log.keysWithin(low, high, readingRevision(revision));
    }

    public int key(int low, int high, int revision, int i)
            throws IllegalArgumentException, IllegalStateException, NoSuchElementException {
        int event = log.findWithin(low, high, readingRevision(revision), i);
        if (event == NONE) {
            throw new NoSuchElementException();
        }
        return log.keys[event];
    }

    public void compact(int revision) throws IllegalArgumentException, IllegalStateException {
        if (revision < 1 || revision > log.revision) {
            throw new IllegalArgumentException();
        }
        if (revision <= compacted) {
            throw new IllegalStateException();
        }
        // Events stay in the log: those from before still carry what keys hold later on.
        compacted = revision;
    }

    public int event(int from, int i, int what)
            throws IllegalArgumentException, IllegalStateException, NoSuchElementException {
        if (from < 1 || what < EVENT_KEY || what > EVENT_KIND) {
            throw new IllegalArgumentException();
        }
        if (from <= compacted) {
            throw new IllegalStateException();
        }
        int start = log.firstEventFrom(from);
        // Not start + i, which could wrap around.
        if (i < 0 || i >= log.size - start) {
            throw new NoSuchElementException();
        }
        return log.describe(start + i, what);
    }

    public int count(int what) {
        switch (what) {
            case 0: return log.revision;
            case 1: return compacted;
            case 2: return log.size;
            case 3: return tests.size;
            case 4: return firstSteps.size;
            case 5: return secondSteps.size;
            case 6: return log.keysNow();
            default: return -1;
        }
    }

    private void refuseIfFull(int moreEvents) {
        if (moreEvents > MOST_EVENTS - log.size) {
            throw new IndexOutOfBoundsException();
        }
    }

    private int readingRevision(int revision) {
        if (revision < 0) {
            throw new IllegalArgumentException();
        }
        if (revision == 0) {
            return log.revision;
        }
        if (revision < compacted || revision > log.revision) {
            throw new IllegalStateException();
        }
        return revision;
    }

    /**
     * All events in their order. What a key held at a revision is read from the one event that set
     * it by then and had no successor by then, so there is no other state to keep in step.
     */
    private static final class EventLog {
        /** Above every revision, for each revision has an event at least. */
        private static final int NEVER = MOST_EVENTS + 1;

        int revision;
        int size;
        final int[] keys;
        final int[] revisions;
        final boolean[] sets;
        final long[] values;
        final int[] versions;
        final int[] creations;
        /** The revision in which the key's next event replaced this one. */
        final int[] replacedIn;
        /** The events' numbers, by key: keys are answered in ascending order. */
        final int[] byKey;

        EventLog() {
            revision = 0;
            size = 0;
            keys = new int[MOST_EVENTS];
            revisions = new int[MOST_EVENTS];
            sets = new boolean[MOST_EVENTS];
            values = new long[MOST_EVENTS];
            versions = new int[MOST_EVENTS];
            creations = new int[MOST_EVENTS];
            replacedIn = new int[MOST_EVENTS];
            byKey = new int[MOST_EVENTS];
        }

        void openRevision() {
            revision++;
        }

        /** The caller has seen to it that there is room for the event. */
        void appendSet(int key, long value) {
            int before = find(key, revision);
            int event = append(key, before);
            sets[event] = true;
            values[event] = value;
            versions[event] = before == NONE ? 1 : versions[before] + 1;
            creations[event] = before == NONE ? revision : creations[before];
        }

        /** The caller has seen to it that there is room; a key that isn't there makes no event. */
        void appendRemoval(int key) {
            int before = find(key, revision);
            if (before != NONE) {
                append(key, before);
            }
        }

        private int append(int key, int before) {
            if (before != NONE) {
                replacedIn[before] = revision;
            }
            int event = size;
            size++;
            keys[event] = key;
            revisions[event] = revision;
            replacedIn[event] = NEVER;
            sortIn(event);
            return event;
        }

        private void sortIn(int event) {
            int place = event;
            while (place > 0 && keys[byKey[place - 1]] > keys[event]) {
                byKey[place] = byKey[place - 1];
                place--;
            }
            byKey[place] = event;
        }

        boolean isThere(int key) {
            return find(key, revision) != NONE;
        }

        /** The event that tells what the key holds at a revision, NONE if it isn't there then. */
        int find(int key, int at) {
            for (int event = 0; event < size; event++) {
                if (keys[event] == key && holds(event, at)) {
                    return event;
                }
            }
            return NONE;
        }

        /** An event replaced in its own revision never holds: a revision is read as it ended. */
        private boolean holds(int event, int at) {
            return sets[event] && revisions[event] <= at && at < replacedIn[event];
        }

        /** 0 of a key that isn't there. */
        long read(int key, int at, int what) {
            int event = find(key, at);
            if (event == NONE) {
                return 0;
            }
            switch (what) {
                case VALUE: return values[event];
                case VERSION: return versions[event];
                case CREATED: return creations[event];
                default: return revisions[event];
            }
        }

        int keysWithin(int low, int high, int at) {
            int found = 0;
            for (int event = 0; event < size; event++) {
                if (holdsWithin(event, low, high, at)) {
                    found++;
                }
            }
            return found;
        }

        /** The event of the key number i of those within, NONE if there are not so many. */
        int findWithin(int low, int high, int at, int i) {
            int found = 0;
            for (int place = 0; place < size; place++) {
                int event = byKey[place];
                if (holdsWithin(event, low, high, at)) {
                    if (found == i) {
                        return event;
                    }
                    found++;
                }
            }
            return NONE;
        }

        private boolean holdsWithin(int event, int low, int high, int at) {
            return keys[event] >= low && keys[event] < high && holds(event, at);
        }

        /** Not by keysWithin, which leaves out the largest int. */
        int keysNow() {
            int found = 0;
            for (int event = 0; event < size; event++) {
                if (holds(event, revision)) {
                    found++;
                }
            }
            return found;
        }

        /** The number of the first event in the revisions from one on; size if there are none. */
        int firstEventFrom(int from) {
            int event = 0;
            while (event < size && revisions[event] < from) {
                event++;
            }
            return event;
        }

        int describe(int event, int what) {
            switch (what) {
                case EVENT_KEY: return keys[event];
                case EVENT_REVISION: return revisions[event];
                default: return sets[event] ? 1 : 0;
            }
        }
    }

    /** The tests of a deal. */
    private static final class TestList {
        int size;
        final int[] keys;
        final int[] whats;
        final int[] relations;
        final long[] bounds;

        TestList() {
            size = 0;
            keys = new int[MOST_TESTS];
            whats = new int[MOST_TESTS];
            relations = new int[MOST_TESTS];
            bounds = new long[MOST_TESTS];
        }

        /** The caller has seen to it that there is room. */
        void append(int key, int what, int relation, long bound) {
            keys[size] = key;
            whats[size] = what;
            relations[size] = relation;
            bounds[size] = bound;
            size++;
        }

        void clear() {
            size = 0;
        }

        boolean allHold(EventLog log) {
            for (int i = 0; i < size; i++) {
                if (!holds(i, log.read(keys[i], log.revision, whats[i]))) {
                    return false;
                }
            }
            return true;
        }

        private boolean holds(int i, long held) {
            if (relations[i] < 0) {
                return held < bounds[i];
            }
            if (relations[i] > 0) {
                return held > bounds[i];
            }
            return held == bounds[i];
        }
    }

    /** One of the two lists of steps of a deal. */
    private static final class StepList {
        int size;
        final int[] keys;
        final boolean[] sets;
        final long[] values;

        StepList() {
            size = 0;
            keys = new int[MOST_STEPS];
            sets = new boolean[MOST_STEPS];
            values = new long[MOST_STEPS];
        }

        /** The caller has seen to it that there is room. */
        void append(int key, boolean set, long value) {
            keys[size] = key;
            sets[size] = set;
            values[size] = value;
            size++;
        }

        void clear() {
            size = 0;
        }

        /** Counted before a step is done, so that a deal that is refused has changed nothing. */
        int eventsOn(EventLog log) {
            int events = 0;
            for (int i = 0; i < size; i++) {
                if (sets[i] || isThereBefore(i, log)) {
                    events++;
                }
            }
            return events;
        }

        private boolean isThereBefore(int step, EventLog log) {
            for (int i = step - 1; i >= 0; i--) {
                if (keys[i] == keys[step]) {
                    return sets[i];
                }
            }
            return log.isThere(keys[step]);
        }

        void applyTo(EventLog log) {
            for (int i = 0; i < size; i++) {
                if (sets[i]) {
                    log.appendSet(keys[i], values[i]);
                } else {
                    log.appendRemoval(keys[i]);
                }
            }
        }
    }
}
