import java.util.ArrayList;
import java.util.List;
import java.util.NoSuchElementException;
import java.util.TreeMap;

/**
 * The document again in its most wasteful form: a whole copy of the store for each revision, and
 * deals tried out on a copy. Slow, but so plain that a fault is unlikely to stand in both.
 */
final class PlainModel {
    private record Held(long value, int version, int created, int set) { }

    private record Happened(int key, int revision, boolean set) { }

    private record Test(int key, int what, int relation, long v) { }

    private record Step(int key, boolean set, long value) { }

    private final List<TreeMap<Integer, Held>> stores = new ArrayList<>();
    private List<Happened> events = new ArrayList<>();
    private final List<Test> tests = new ArrayList<>();
    private final List<Step> firstSteps = new ArrayList<>();
    private final List<Step> secondSteps = new ArrayList<>();
    private int compacted = 0;

    PlainModel() {
        stores.add(new TreeMap<>());
    }

    private int latest() {
        return stores.size() - 1;
    }

    private TreeMap<Integer, Held> now() {
        return stores.get(latest());
    }

    private void change(List<Step> steps) {
        TreeMap<Integer, Held> store = new TreeMap<>(now());
        List<Happened> log = new ArrayList<>(events);
        int revision = latest() + 1;
        for (Step step : steps) {
            Held held = store.get(step.key);
            if (step.set) {
                int version = held == null ? 1 : held.version + 1;
                int created = held == null ? revision : held.created;
                store.put(step.key, new Held(step.value, version, created, revision));
                log.add(new Happened(step.key, revision, true));
            } else if (held != null) {
                store.remove(step.key);
                log.add(new Happened(step.key, revision, false));
            }
        }
        if (log.size() > 300) {
            throw new IndexOutOfBoundsException();
        }
        if (log.size() > events.size()) {
            stores.add(store);
            events = log;
        }
    }

    int put(int key, long value) {
        change(List.of(new Step(key, true, value)));
        return latest();
    }

    int remove(int key) {
        boolean there = now().containsKey(key);
        change(List.of(new Step(key, false, 0)));
        return there ? latest() : 0;
    }

    void test(int key, int what, int relation, long v) {
        bad(what < 0 || what > 3 || relation < -1 || relation > 1);
        refused(tests.size() == 20);
        tests.add(new Test(key, what, relation, v));
    }

    void step(boolean first, int key, boolean set, long value) {
        List<Step> steps = first ? firstSteps : secondSteps;
        refused(steps.size() == 20);
        steps.add(new Step(key, set, value));
    }

    int deal() {
        boolean first = true;
        for (Test test : tests) {
            long held = read(now().get(test.key), test.what);
            first = first && Integer.signum(Long.compare(held, test.v)) == test.relation;
        }
        change(first ? firstSteps : secondSteps);
        tests.clear();
        firstSteps.clear();
        secondSteps.clear();
        return first ? 1 : 2;
    }

    private static long read(Held held, int what) {
        if (held == null) {
            return 0;
        }
        long[] all = {held.value, held.version, held.created, held.set};
        return all[what];
    }

    private TreeMap<Integer, Held> reading(int revision) {
        bad(revision < 0);
        int at = revision == 0 ? latest() : revision;
        refused(at < compacted || at > latest());
        return stores.get(at);
    }

    long get(int key, int revision) {
        Held held = reading(revision).get(key);
        missing(held == null);
        return held.value;
    }

    int state(int key, int revision, int what) {
        bad(what < 1 || what > 3);
        return (int) read(reading(revision).get(key), what);
    }

    private List<Integer> within(int low, int high, int revision) {
        List<Integer> keys = new ArrayList<>();
        for (int key : reading(revision).keySet()) {
            if (key >= low && key < high) {
                keys.add(key);
            }
        }
        return keys;
    }

    int many(int low, int high, int revision) {
        return within(low, high, revision).size();
    }

    int key(int low, int high, int revision, int i) {
        List<Integer> keys = within(low, high, revision);
        missing(i < 0 || i >= keys.size());
        return keys.get(i);
    }

    void compact(int revision) {
        bad(revision < 1 || revision > latest());
        refused(revision <= compacted);
        compacted = revision;
    }

    int event(int from, int i, int what) {
        bad(from < 1 || what < 0 || what > 2);
        refused(from <= compacted);
        List<Happened> those = new ArrayList<>();
        for (Happened happened : events) {
            if (happened.revision >= from) {
                those.add(happened);
            }
        }
        missing(i < 0 || i >= those.size());
        Happened happened = those.get(i);
        int[] all = {happened.key, happened.revision, happened.set ? 1 : 0};
        return all[what];
    }

    int count(int what) {
        int[] all = {latest(), compacted, events.size(), tests.size(), firstSteps.size(),
            secondSteps.size(), now().size()};
        return what < 0 || what >= all.length ? -1 : all[what];
    }

    private static void bad(boolean so) {
        if (so) {
            throw new IllegalArgumentException();
        }
    }

    private static void refused(boolean so) {
        if (so) {
            throw new IllegalStateException();
        }
    }

    private static void missing(boolean so) {
        if (so) {
            throw new NoSuchElementException();
        }
    }
}
