import java.util.Random;

/** Runs of 512 calls from fixed seeds: each answer of the program is the plain model's. */
public final class RandomRunsTest {
    private static final int RUNS = 3000;
    private static final int CALLS = 512;
    private static final int[] EDGES = {
        Integer.MIN_VALUE, Integer.MIN_VALUE + 1, -1, 0, 1, Integer.MAX_VALUE - 1, Integer.MAX_VALUE};
    private static final Check CHECK = new Check();

    private final Random random;
    private final int keys;
    /** How many of a hundred calls change the store: the more, the sooner it is full. */
    private final int changes;
    /** So many calls put or remove at first: in some runs the store is almost full behind them. */
    private final int plainChanges;
    /** Of a hundred changes that could be deals: the fewer, the longer a deal's lists grow. */
    private final int deals;
    /** From this call on there are looks only, so that no wrong state goes unseen. */
    private final int lastChange;
    private final RevisionShelf shelf = new RevisionShelf();
    private final PlainModel model = new PlainModel();

    private RandomRunsTest(int seed) {
        random = new Random(seed);
        keys = 1 + random.nextInt(random.nextBoolean() ? 6 : 60);
        changes = 30 + random.nextInt(65);
        plainChanges = random.nextBoolean() ? 0 : 270 + random.nextInt(60);
        deals = random.nextBoolean() ? 100 : random.nextInt(50);
        lastChange = CALLS / 2 + random.nextInt(CALLS / 2);
    }

    public static void main(String[] args) {
        for (int seed = 0; seed < RUNS; seed++) {
            RandomRunsTest run = new RandomRunsTest(seed);
            for (int call = 0; call < CALLS; call++) {
                run.callBoth("seed " + seed + ", call " + call, call);
            }
        }
        CHECK.end("RandomRunsTest");
    }

    private void callBoth(String where, int call) {
        if (call < plainChanges) {
            putOrRemove(where, someKey(), someValue(), random.nextInt(5) > 0);
        } else if (call < lastChange && random.nextInt(100) < changes) {
            change(where);
        } else {
            look(where);
        }
    }

    private int someKey() {
        return random.nextInt(25) == 0 ? EDGES[random.nextInt(EDGES.length)] : random.nextInt(keys) - keys / 2;
    }

    private int someRevision() {
        if (random.nextInt(15) == 0) {
            return EDGES[random.nextInt(EDGES.length)];
        }
        return random.nextInt(4) == 0 ? 0 : random.nextInt(model.count(0) + 3) - 1;
    }

    private int laterRevision() {
        return random.nextInt(4) == 0 ? someRevision() : model.count(1) + random.nextInt(4) - 1;
    }

    private long someValue() {
        return random.nextInt(8) == 0 ? random.nextLong() : random.nextInt(5) - 2;
    }

    private int within(int low, int high) {
        return random.nextInt(30) == 0 ? EDGES[random.nextInt(EDGES.length)] : low + random.nextInt(high - low + 1);
    }

    private void same(String where, String call, Check.Call got, Check.Call want) {
        CHECK.same(where + ", " + call, Check.answerOf(got), Check.answerOf(want));
    }

    private void change(String where) {
        int key = someKey();
        long value = someValue();
        boolean yes = random.nextBoolean();
        switch (random.nextInt(20)) {
            case 0, 1, 2, 3, 4, 5 -> putOrRemove(where, key, value, yes);
            case 6, 7, 8, 9 -> test(where, key, value);
            case 10, 11, 12, 13, 14, 15, 16 -> {
                boolean set = random.nextInt(5) < 3;
                same(where, "step", () -> {
                    shelf.step(yes, key, set, value);
                    return 0;
                }, () -> {
                    model.step(yes, key, set, value);
                    return 0;
                });
            }
            case 17, 18 -> {
                if (random.nextInt(100) < deals) {
                    same(where, "deal", shelf::deal, model::deal);
                }
            }
            default -> compact(where);
        }
    }

    private void putOrRemove(String where, int key, long value, boolean put) {
        if (put) {
            same(where, "put", () -> shelf.put(key, value), () -> model.put(key, value));
        } else {
            same(where, "remove", () -> shelf.remove(key), () -> model.remove(key));
        }
    }

    private void test(String where, int key, long value) {
        int what = within(-1, 4);
        int relation = within(-2, 2);
        same(where, "test", () -> {
            shelf.test(key, what, relation, value);
            return 0;
        }, () -> {
            model.test(key, what, relation, value);
            return 0;
        });
    }

    private void compact(String where) {
        int revision = laterRevision();
        same(where, "compact", () -> {
            shelf.compact(revision);
            return 0;
        }, () -> {
            model.compact(revision);
            return 0;
        });
    }

    private void look(String where) {
        int key = someKey();
        int high = someKey();
        int revision = someRevision();
        switch (random.nextInt(6)) {
            case 0 -> same(where, "get", () -> shelf.get(key, revision), () -> model.get(key, revision));
            case 1 -> {
                int what = within(0, 4);
                same(where, "state", () -> shelf.state(key, revision, what), () -> model.state(key, revision, what));
            }
            case 2 -> same(where, "many", () -> shelf.many(key, high, revision), () -> model.many(key, high, revision));
            case 3 -> {
                int i = within(-1, 5);
                same(where, "key", () -> shelf.key(key, high, revision, i), () -> model.key(key, high, revision, i));
            }
            case 4 -> {
                int i = within(-1, 30);
                int what = within(-1, 3);
                same(where, "event", () -> shelf.event(revision, i, what), () -> model.event(revision, i, what));
            }
            default -> {
                int what = within(-1, 7);
                same(where, "count", () -> shelf.count(what), () -> model.count(what));
            }
        }
    }
}
