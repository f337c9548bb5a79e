import java.util.Random;

/** Runs of 512 calls from fixed seeds: each answer of the program is the plain model's. */
public final class RandomRunsTest {
    private static final int RUNS = 1500;
    private static final int CALLS = 512;
    private static final int[] EDGES = {
        Integer.MIN_VALUE, Integer.MIN_VALUE + 1, -1, 0, 1, Integer.MAX_VALUE - 1, Integer.MAX_VALUE};
    private static final Check CHECK = new Check();

    private final Random random;
    private final int keys;
    /** How many of a hundred calls change the store: the more, the sooner it is full. */
    private final int changes;
    private final RevisionShelf shelf = new RevisionShelf();
    private final PlainModel model = new PlainModel();

    private RandomRunsTest(int seed) {
        random = new Random(seed);
        keys = 1 + random.nextInt(random.nextBoolean() ? 6 : 60);
        changes = 30 + random.nextInt(65);
    }

    public static void main(String[] args) {
        for (int seed = 0; seed < RUNS; seed++) {
            RandomRunsTest run = new RandomRunsTest(seed);
            for (int call = 0; call < CALLS; call++) {
                run.callBoth("seed " + seed + ", call " + call);
            }
            run.compareWhole("seed " + seed + " at its end");
        }
        CHECK.end("RandomRunsTest");
    }

    private void callBoth(String where) {
        if (random.nextInt(100) < changes) {
            change(where);
        } else {
            look(where);
        }
    }

    private int someKey() {
        return random.nextInt(25) == 0 ? EDGES[random.nextInt(EDGES.length)] : random.nextInt(keys) - keys / 2;
    }

    private int someRevision() {
        if (random.nextInt(15) == 0) {
            return EDGES[random.nextInt(EDGES.length)];
        }
        return random.nextInt(4) == 0 ? 0 : random.nextInt(model.count(0) + 3) - 1;
    }

    private int laterRevision() {
        return random.nextInt(4) == 0 ? someRevision() : model.count(1) + random.nextInt(4) - 1;
    }

    private long someValue() {
        return random.nextInt(8) == 0 ? random.nextLong() : random.nextInt(5) - 2;
    }

    private int within(int low, int high) {
        return random.nextInt(30) == 0 ? EDGES[random.nextInt(EDGES.length)] : low + random.nextInt(high - low + 1);
    }

    private void same(String where, String call, Check.Call got, Check.Call want) {
        CHECK.same(where + ", " + call, Check.answerOf(got), Check.answerOf(want));
    }

    private void change(String where) {
        int key = someKey();
        long value = someValue();
        boolean yes = random.nextBoolean();
        switch (random.nextInt(20)) {
            case 0, 1, 2, 3 -> same(where, "put", () -> shelf.put(key, value), () -> model.put(key, value));
            case 4, 5, 6 -> same(where, "remove", () -> shelf.remove(key), () -> model.remove(key));
            case 7, 8, 9 -> test(where, key, value);
            case 10, 11, 12, 13, 14, 15, 16 -> {
                boolean set = random.nextInt(5) < 3;
                same(where, "step", () -> {
                    shelf.step(yes, key, set, value);
                    return 0;
                }, () -> {
                    model.step(yes, key, set, value);
                    return 0;
                });
            }
            case 17, 18 -> same(where, "deal", shelf::deal, model::deal);
            default -> compact(where);
        }
    }

    private void test(String where, int key, long value) {
        int what = within(-1, 4);
        int relation = within(-2, 2);
        same(where, "test", () -> {
            shelf.test(key, what, relation, value);
            return 0;
        }, () -> {
            model.test(key, what, relation, value);
            return 0;
        });
    }

    private void compact(String where) {
        int revision = laterRevision();
        same(where, "compact", () -> {
            shelf.compact(revision);
            return 0;
        }, () -> {
            model.compact(revision);
            return 0;
        });
    }

    private void look(String where) {
        int key = someKey();
        int high = someKey();
        int revision = someRevision();
        switch (random.nextInt(6)) {
            case 0 -> same(where, "get", () -> shelf.get(key, revision), () -> model.get(key, revision));
            case 1 -> {
                int what = within(0, 4);
                same(where, "state", () -> shelf.state(key, revision, what), () -> model.state(key, revision, what));
            }
            case 2 -> same(where, "many", () -> shelf.many(key, high, revision), () -> model.many(key, high, revision));
            case 3 -> {
                int i = within(-1, 5);
                same(where, "key", () -> shelf.key(key, high, revision, i), () -> model.key(key, high, revision, i));
            }
            case 4 -> {
                int i = within(-1, 30);
                int what = within(-1, 3);
                same(where, "event", () -> shelf.event(revision, i, what), () -> model.event(revision, i, what));
            }
            default -> {
                int what = within(-1, 7);
                same(where, "count", () -> shelf.count(what), () -> model.count(what));
            }
        }
    }

    /** All that can be read, so that no wrong state goes unseen for want of a look at it. */
    private void compareWhole(String where) {
        for (int what = 0; what <= 6; what++) {
            CHECK.due(where + ", count " + what, shelf.count(what), model.count(what));
        }
        for (int at = 0; at <= model.count(0) + 1; at++) {
            compareRevision(where + ", revision " + at, at);
        }
        int from = model.count(1) + 1;
        for (int i = 0; i <= model.count(2); i++) {
            int number = i;
            for (int what = 0; what <= 2; what++) {
                int of = what;
                same(where, "event", () -> shelf.event(from, number, of), () -> model.event(from, number, of));
            }
        }
    }

    private void compareRevision(String where, int at) {
        int low = Integer.MIN_VALUE;
        int high = Integer.MAX_VALUE;
        same(where, "many", () -> shelf.many(low, high, at), () -> model.many(low, high, at));
        for (int i = 0; i <= keys; i += 3) {
            int number = i;
            int key = i - keys / 2;
            same(where, "key", () -> shelf.key(low, high, at, number), () -> model.key(low, high, at, number));
            same(where, "get", () -> shelf.get(key, at), () -> model.get(key, at));
            same(where, "state", () -> shelf.state(key, at, 1), () -> model.state(key, at, 1));
        }
    }
}
