import java.util.Random;

/** Nets at the document's limits, whose answers are known otherwise than by listing all. */
public final class BigNetsTest {
    private BigNetsTest() {
    }

    public static void main(String[] args) {
        sixWithAllRoads();
        fourAndFour();
        ringOfEight();
        cube();
        chancesOfTwentyRoads();
        chancesOfTwelveTurnedRoads();
        cheapestOfTwelveRoads();
        hardeningStepByStep();
        twoTrees();
        Check.end();
    }

    private static RoadBench posts(int n) {
        RoadBench x = new RoadBench();
        for (int i = 0; i < n; i++) {
            x.post();
        }
        return x;
    }

    private static void sixWithAllRoads() {
        RoadBench x = posts(6);
        for (int a = 0; a < 6; a++) {
            for (int b = a + 1; b < 6; b++) {
                x.road(a, b);
            }
        }
        Check.due("six: netHold", x.netHold(), 5);
        Check.due("six: least", x.least(-1), 6);
        Check.due("six: trees", x.trees(), 1296);
        Check.due("six: pack", x.pack(), 3);
        Check.due("six: forests", x.forests(), 3);
        Check.due("six: apart", x.apart(2, 5), 5);
        Check.due("six: strong", x.strong(), 1);
        Check.due("six: harder(8)", x.harder(8), 9);
        Check.due("six: block", x.block(14), 0);
    }

    private static void fourAndFour() {
        RoadBench x = posts(8);
        for (int a = 0; a < 4; a++) {
            for (int b = 4; b < 8; b++) {
                x.road(a, b);
            }
        }
        Check.due("four and four: netHold", x.netHold(), 4);
        Check.due("four and four: trees", x.trees(), 4096);
        Check.due("four and four: pack", x.pack(), 2);
        Check.due("four and four: forests", x.forests(), 3);
        Check.due("four and four: apart", x.apart(0, 1), 4);
        Check.due("four and four: least", x.least(-1), 8);
        Check.due("four and four: least", x.least(7), 254);
        Check.due("four and four: bridges", x.bridges(), 0);
        Check.due("four and four: joints", x.joints(), 0);
    }

    private static void ringOfEight() {
        RoadBench x = posts(8);
        for (int a = 0; a < 8; a++) {
            x.road(a, (a + 1) % 8);
        }
        Check.due("ring: least", x.least(-1), 28);
        Check.due("ring: trees", x.trees(), 8);
        Check.due("ring: chance", x.chance(), (1L << 16) * 9);
        Check.due("ring: turns", x.turns(), 0);
        Check.due("ring: strong", x.strong(), 1);
        Check.due("ring: best", x.best(1), 127);
        Check.due("ring: harder(3)", x.harder(3), 4);
        Check.due("ring: harder(8)", x.harder(8), 24);
        Check.due("ring: still", x.still(true, 1 + 16), 0);
        Check.due("ring: still", x.still(true, 1 + 128), 1);
        Check.due("none: harder(8)", posts(8).harder(8), 32);
        Check.due("none: harder(1)", posts(8).harder(1), 7);
    }

    private static void cube() {
        RoadBench x = posts(8);
        for (int a = 0; a < 8; a++) {
            for (int bit = 1; bit < 8; bit *= 2) {
                if ((a & bit) == 0) {
                    x.road(a, a | bit);
                }
            }
        }
        Check.due("cube: trees", x.trees(), 384);
        Check.due("cube: netHold", x.netHold(), 3);
        Check.due("cube: apart", x.apart(0, 7), 3);
        Check.due("cube: pack", x.pack(), 1);
        Check.due("cube: forests", x.forests(), 2);
        Check.due("cube: harder(4)", x.harder(4), 4);
        Check.due("cube: best(3)", x.best(3), 4095);
        Check.due("cube: best(2) takes a ring", Integer.bitCount(x.best(2)), 8);
    }

    private static int[][] randomRoads(RoadBench x, Random random, int posts, int roads) {
        int[][] rows = new int[roads][];
        for (int r = 0; r < roads; r++) {
            int a = r + 1 < posts ? r + 1 : random.nextInt(posts);
            int b = r + 1 < posts ? random.nextInt(r + 1) : (a + 1 + random.nextInt(posts - 1)) % posts;
            boolean swap = random.nextBoolean();
            rows[r] = new int[] {swap ? b : a, swap ? a : b, random.nextInt(9), random.nextInt(6)};
            x.road(rows[r][0], rows[r][1]);
            x.worth(r, true, rows[r][2]);
            x.worth(r, false, rows[r][3]);
        }
        return rows;
    }

    private static boolean hangs(int[][] rows, int posts, int set, boolean turned) {
        return reach(rows, posts, set, turned, 0, 1) == (1 << posts) - 1
                && (!turned || reach(rows, posts, set, true, 1, 0) == (1 << posts) - 1);
    }

    private static int reach(int[][] rows, int posts, int set, boolean turned, int from, int to) {
        int seen = 1;
        for (int i = 0; i < posts; i++) {
            for (int r = 0; r < rows.length; r++) {
                if ((set >> r & 1) != 0) {
                    if ((seen >> rows[r][from] & 1) != 0) {
                        seen |= 1 << rows[r][to];
                    }
                    if (!turned && (seen >> rows[r][to] & 1) != 0) {
                        seen |= 1 << rows[r][from];
                    }
                }
            }
        }
        return seen;
    }

    private static long chance(int[][] rows, int posts, boolean turned) {
        long sum = 0;
        for (int set = 0; set < 1 << rows.length; set++) {
            long ways = 1;
            for (int r = 0; r < rows.length && ways != 0; r++) {
                ways *= (set >> r & 1) != 0 ? rows[r][2] : 8 - rows[r][2];
            }
            if (ways != 0 && hangs(rows, posts, set, turned)) {
                sum += ways;
            }
        }
        return sum;
    }

    private static void chancesOfTwentyRoads() {
        Random random = new Random(20);
        for (int posts = 6; posts <= 8; posts++) {
            RoadBench x = posts(posts);
            int[][] rows = randomRoads(x, random, posts, 20);
            Check.due("chance of 20 roads, " + posts + " posts", x.chance(), chance(rows, posts, false));
        }
    }

    private static void chancesOfTwelveTurnedRoads() {
        Random random = new Random(12);
        for (int i = 0; i < 60; i++) {
            int posts = 2 + i % 7;
            RoadBench x = new RoadBench();
            x.anew(true);
            for (int p = 0; p < posts; p++) {
                x.post();
            }
            int[][] rows = randomRoads(x, random, posts, 12);
            Check.due("chance of 12 turned roads, " + posts + " posts", x.chance(), chance(rows, posts, true));
        }
    }

    private static void cheapestOfTwelveRoads() {
        Random random = new Random(5);
        for (int i = 0; i < 60; i++) {
            int posts = 2 + i % 6;
            boolean turned = i % 3 == 0;
            RoadBench x = new RoadBench();
            x.anew(turned);
            SlowNet slow = new SlowNet(turned);
            slow.posts = posts;
            for (int p = 0; p < posts; p++) {
                x.post();
            }
            for (int[] row : randomRoads(x, random, posts, 12)) {
                slow.roads.add(new SlowNet.Road(row[0], row[1], row[3], row[2]));
            }
            int k = 1 + random.nextInt(2);
            int best = slow.best(k);
            Check.due("best(" + k + ") of 12 roads, " + posts + " posts", x.best(k), best < 0 ? -6 : best);
        }
    }

    /**
     * harder() is 0 just where the net is hard; no one road lowers it by more than 1, and some road does lower it: so
     * it is the fewest.
     */
    private static void hardeningStepByStep() {
        Random random = new Random(3);
        for (int i = 0; i < 120; i++) {
            int posts = 4 + i % 5;
            int k = 1 + random.nextInt(posts > 6 ? 4 : 5);
            RoadBench x = posts(posts);
            int start = random.nextInt(8);
            for (int r = 0; r < start; r++) {
                int a = random.nextInt(posts);
                x.road(a, (a + 1 + random.nextInt(posts - 1)) % posts);
            }
            int steps = 0;
            for (int left = x.harder(k); steps < 20 && x.told(1) < 20; steps++, left = x.harder(k)) {
                Check.holds("harder is 0 just where it is hard", left == 0 == x.netHold() >= k);
                if (left == 0) {
                    break;
                }
                int[] pair = roadThatHelps(x, posts, k, left);
                Check.holds("some road helps", pair != null);
                if (pair == null) {
                    return;
                }
                x.road(pair[0], pair[1]);
            }
        }
    }

    private static int[] roadThatHelps(RoadBench x, int posts, int k, int left) {
        int[] found = null;
        for (int a = 0; a < posts; a++) {
            for (int b = a + 1; b < posts; b++) {
                x.road(a, b);
                int then = x.harder(k);
                x.undo();
                Check.holds("one road helps by one at most", then == left || then == left - 1);
                if (then == left - 1) {
                    found = new int[] {a, b};
                }
            }
        }
        return found;
    }

    /** Two trees lie side by side where the rest of some tree hangs together; two forests part all in the same way. */
    private static void twoTrees() {
        Random random = new Random(14);
        for (int i = 0; i < 40; i++) {
            int posts = 6 + i % 3;
            int roads = 2 * posts - 2 + i % 2;
            RoadBench x = posts(posts);
            int[][] rows = randomRoads(x, random, posts, roads);
            boolean two = false;
            int all = (1 << roads) - 1;
            for (int set = 0; set <= all && !two; set++) {
                two = Integer.bitCount(set) == posts - 1 && hangs(rows, posts, set, false)
                        && hangs(rows, posts, all & ~set, false);
            }
            Check.due("pack of two trees", Math.min(2, x.pack()), two ? 2 : 1);
            if (roads == 2 * posts - 2) {
                Check.holds("two forests of so many roads are two trees", x.forests() == 2 == two);
            }
        }
    }
}
