import java.util.Random;

/** Runs of 512 calls, with wrong arguments among them, on the class under test and on SlowBench alike. */
public final class RandomRunsTest {
    private static final int RUNS = 800;
    private static final int CALLS = 512;

    private final Random random;
    private final RoadBench fast = new RoadBench();
    private final SlowBench slow = new SlowBench();
    private final int mostPosts;
    private final int mostRoads;
    private final String run;
    private long got;
    private long want;
    private String call = "";

    private RandomRunsTest(int seed) {
        random = new Random(seed);
        mostPosts = 2 + seed % 7;
        mostRoads = new int[] {5, 8, 11, 20}[seed / 7 % 4];
        run = "run " + seed + ": ";
    }

    public static void main(String[] args) {
        for (int seed = 0; seed < RUNS && Check.wrongSoFar() < 10; seed++) {
            RandomRunsTest test = new RandomRunsTest(seed);
            for (int i = 0; i < CALLS && Check.wrongSoFar() < 10; i++) {
                test.step(i);
            }
        }
        Check.end();
    }

    private void step(int i) {
        call = "";
        int kind = random.nextInt(12);
        if (kind < 4) {
            build();
        } else if (kind == 4) {
            sheets();
        } else if (kind == 5) {
            tells();
        } else if (kind == 6) {
            slots();
        } else if (kind < 10) {
            cuts();
        } else {
            dear();
        }
        if (!call.isEmpty()) {
            Check.due(run + "call " + i + ": " + call, got, want);
        }
    }

    private void due(String what, long fromFast, long fromSlow) {
        call = what;
        got = fromFast;
        want = fromSlow;
    }

    private int post() {
        int sort = random.nextInt(30);
        if (sort == 0) {
            return new int[] {-1, Integer.MIN_VALUE, Integer.MAX_VALUE, 8, 32, -32}[random.nextInt(6)];
        }
        return random.nextInt(Math.max(1, sort == 1 ? slow.net.posts + 2 : slow.net.posts));
    }

    private int road() {
        int sort = random.nextInt(30);
        if (sort == 0) {
            return new int[] {-1, Integer.MIN_VALUE, Integer.MAX_VALUE, 20, 32, -32}[random.nextInt(6)];
        }
        return random.nextInt(Math.max(1, sort == 1 ? slow.net.roads.size() + 2 : slow.net.roads.size()));
    }

    private int few(int bound) {
        int sort = random.nextInt(40);
        if (sort == 0) {
            return new int[] {-1, Integer.MIN_VALUE, Integer.MAX_VALUE, bound + 20, -bound}[random.nextInt(5)];
        }
        return random.nextInt(bound + (sort == 1 ? 2 : 0));
    }

    private void build() {
        int a = post();
        int b = post();
        int r = road();
        boolean yes = random.nextBoolean();
        switch (random.nextInt(14)) {
            case 0:
                if (random.nextInt(4) == 0) {
                    due("anew(" + yes + ")", fast.anew(yes), slow.anew(yes));
                }
                break;
            case 1: case 2: case 3:
                if (slow.net.posts < mostPosts || mostPosts == 8) {
                    due("post()", fast.post(), slow.post());
                }
                break;
            case 4: case 5: case 6: case 7: case 8:
                if (slow.net.roads.size() < mostRoads || mostRoads == 20) {
                    due("road(" + a + ", " + b + ")", fast.road(a, b), slow.road(a, b));
                }
                break;
            case 9: {
                int v = yes ? few(9) : random.nextBoolean() ? few(4) : few(1001);
                due("worth(" + r + ", " + yes + ", " + v + ")", fast.worth(r, yes, v), slow.worth(r, yes, v));
                break;
            }
            case 10:
                due("drop(" + r + ")", fast.drop(r), slow.drop(r));
                break;
            case 11:
                if (random.nextInt(4) == 0) {
                    due("join(" + a + ", " + b + ")", fast.join(a, b), slow.join(a, b));
                }
                break;
            case 12:
                due("of(" + r + ", " + b + ")", fast.of(r, b), slow.of(r, b));
                break;
            default:
                due("undo()", fast.undo(), slow.undo());
                break;
        }
    }

    private void sheets() {
        int s = few(4);
        int t = few(4);
        int n = few(25);
        switch (random.nextInt(6)) {
            case 0: {
                int bits = new int[] {0, 8, 8, 8, 16, 16, 32, 7, -8}[random.nextInt(9)];
                int size = random.nextBoolean() ? few(7) : n;
                due("sheet(" + s + ", " + bits + ", " + size + ")", fast.sheet(s, bits, size),
                        slow.sheet(s, bits, size));
                break;
            }
            case 1: case 2: {
                int i = few(8);
                int v = random.nextInt(8) == 0 ? random.nextInt() : post() + (random.nextInt(6) == 0 ? 65536 : 0);
                due("put(" + s + ", " + i + ", " + v + ")", fast.put(s, i, v), slow.put(s, i, v));
                break;
            }
            case 3: {
                int from = few(6);
                int to = few(6);
                int count = few(6);
                due("copy(" + s + ", " + from + ", " + t + ", " + to + ", " + count + ")",
                        fast.copy(s, from, t, to, count), slow.copy(s, from, t, to, count));
                break;
            }
            default:
                if (slow.net.roads.size() + 2 < mostRoads || mostRoads == 20) {
                    due("lay(" + s + ")", fast.lay(s), slow.lay(s));
                }
                break;
        }
    }

    private void tells() {
        int a = post();
        int b = post();
        int count = random.nextInt(20) == 0 ? 70 : random.nextInt(7);
        for (int i = 0; i < count; i++) {
            int v = random.nextBoolean() ? road() : post();
            Check.due(run + "tell(" + v + ")", fast.tell(v), slow.tell(v));
        }
        switch (random.nextInt(4)) {
            case 0:
                due("would()", fast.would(), slow.would());
                break;
            case 1: case 2:
                due("way(" + a + ", " + b + ")", fast.way(a, b), slow.way(a, b));
                break;
            default:
                int what = few(7);
                due("told(" + what + ")", fast.told(what), slow.told(what));
                break;
        }
    }

    private void slots() {
        int slot = few(4);
        int kind = few(4);
        switch (random.nextInt(4)) {
            case 0: case 1:
                due("keep(" + slot + ")", fast.keep(slot), slow.keep(slot));
                break;
            case 2:
                due("as(" + slot + ", " + kind + ")", fast.as(slot, kind), slow.as(slot, kind));
                break;
            default:
                due("bring(" + slot + ")", fast.bring(slot), slow.bring(slot));
                break;
        }
    }

    private void cuts() {
        int a = post();
        int b = post();
        int r = road();
        switch (random.nextInt(13)) {
            case 0:
                due("hold(" + a + ", " + b + ")", fast.hold(a, b), slow.hold(a, b));
                break;
            case 1:
                due("cut(" + a + ", " + b + ")", fast.cut(a, b), slow.cut(a, b));
                break;
            case 2:
                due("netHold()", fast.netHold(), slow.netHold());
                break;
            case 3: {
                int i = few(6) - 1;
                due("least(" + i + ")", fast.least(i), slow.least(i));
                break;
            }
            case 4:
                due("apart(" + a + ", " + b + ")", fast.apart(a, b), slow.apart(a, b));
                break;
            case 5: {
                int k = few(5);
                due("heap(" + a + ", " + k + ")", fast.heap(a, k), slow.heap(a, k));
                break;
            }
            case 6: {
                boolean posts = random.nextBoolean();
                int bits = posts ? slow.net.posts : slow.net.roads.size();
                int set = random.nextInt(20) == 0 ? random.nextInt() : random.nextInt() & random.nextInt()
                        & (1 << bits) - 1;
                due("still(" + posts + ", " + set + ")", fast.still(posts, set), slow.still(posts, set));
                break;
            }
            case 7:
                due("bridges()", fast.bridges(), slow.bridges());
                break;
            case 8:
                due("joints()", fast.joints(), slow.joints());
                break;
            case 9:
                due("block(" + r + ")", fast.block(r), slow.block(r));
                break;
            case 10:
                due("turns()", fast.turns(), slow.turns());
                break;
            case 11:
                due("strong()", fast.strong(), slow.strong());
                break;
            default:
                if (random.nextInt(5) == 0) {
                    due("take()", fast.take(), slow.take());
                }
                break;
        }
    }

    /** What SlowBench lists by all sets of roads is asked of few roads alone. */
    private void dear() {
        int roads = slow.net.roads.size();
        int k = few(3) + (random.nextInt(4) == 0 ? few(7) : 1);
        switch (random.nextInt(7)) {
            case 0:
                if (slow.net.turned || slow.net.posts < 2
                        || slow.net.posts <= 4 && k <= 3 || slow.net.posts <= 6 && k <= slow.net.netHold() + 1) {
                    due("harder(" + k + ")", fast.harder(k), slow.harder(k));
                }
                break;
            case 1:
                if (roads <= 8 || roads > 12) {
                    due("best(" + k + ")", fast.best(k), slow.best(k));
                }
                break;
            case 2:
                if (roads <= 9) {
                    due("pack()", fast.pack(), slow.pack());
                }
                break;
            case 3:
                if (roads <= 11) {
                    due("trees()", fast.trees(), slow.trees());
                }
                break;
            case 4:
                if (roads <= 9) {
                    due("forests()", fast.forests(), slow.forests());
                }
                break;
            case 5:
                if (roads <= 9) {
                    int a = post();
                    due("arms(" + a + ")", fast.arms(a), slow.arms(a));
                }
                break;
            default:
                if (roads <= 9 || slow.net.turned && roads > 12) {
                    due("chance()", fast.chance(), slow.chance());
                }
                break;
        }
    }
}
