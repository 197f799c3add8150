import java.math.BigInteger;
import java.util.ArrayList;
import java.util.Arrays;
import java.util.List;
import java.util.Random;

/**
 * Nets of any size up to the document's limits, where pack(), forests(), arms(), harder() and trees() stand on theorems.
 * Each answer is shown twice, without the theorem: by the trees, forests or new roads themselves, so that it is not
 * too good, and by a parting, a set or a cut that leaves room for no better one.
 */
public final class TheoremsTest extends WithNets {
    private static final int NETS = 600;
    /** The first numbers of neighbouring seeds are alike, so seeds are spread. */
    private static final long SPREAD = 0x9E3779B97F4A7C15L;

    private final Random random;
    private final int posts;
    private final int all;
    private final boolean turned;
    private final RoadBench bench;
    private final List<int[]> roads = new ArrayList<>();
    private final String name;

    private TheoremsTest(int seed, boolean turned) {
        random = new Random(seed * SPREAD);
        posts = 2 + seed % 7;
        all = (1 << posts) - 1;
        this.turned = turned;
        bench = net(turned, posts);
        int count = random.nextInt(4) == 0 ? random.nextInt(21) : 10 + random.nextInt(11);
        int hub = random.nextInt(posts);
        boolean lopsided = random.nextInt(4) == 0;
        for (int r = 0; r < count; r++) {
            int a = lopsided && random.nextBoolean() ? hub : random.nextInt(posts);
            int b = (a + 1 + random.nextInt(posts - 1)) % posts;
            roads.add(new int[] {a, b});
            bench.road(a, b);
        }
        name = "net " + seed + (turned ? " turned, " : ", ") + posts + " posts, " + count + " roads: ";
    }

    public static void main(String[] args) {
        for (int seed = 0; seed < NETS; seed++) {
            TheoremsTest plain = new TheoremsTest(seed, false);
            plain.packIsShown();
            plain.forestsAreShown();
            plain.treesAreShown();
            if (seed % 3 == 0) {
                plain.harderIsShown();
            }
            new TheoremsTest(seed, true).armsAreShown();
        }
        Check.end();
    }

    private boolean leadsOut(int[] road, int set) {
        boolean from = (set >> road[0] & 1) != 0;
        boolean to = (set >> road[1] & 1) != 0;
        return turned ? from && !to : from != to;
    }

    private int rootOf(int[] heads, int post) {
        int at = post;
        while (heads[at] != at) {
            at = heads[at];
        }
        return at;
    }

    /** How many heaps of posts the roads of a colour leave; -1: they have a ring. */
    private int heapsOf(int[] colours, int colour) {
        int[] heads = new int[posts];
        for (int p = 0; p < posts; p++) {
            heads[p] = p;
        }
        int heaps = posts;
        for (int r = 0; r < colours.length; r++) {
            if (colours[r] == colour) {
                int a = rootOf(heads, roads.get(r)[0]);
                int b = rootOf(heads, roads.get(r)[1]);
                if (a == b) {
                    return -1;
                }
                heads[a] = b;
                heaps--;
            }
        }
        return heaps;
    }

    /** The roads of a colour by which a way leads from one post to another; null: there is none. */
    private List<Integer> wayOf(int[] colours, int colour, int from, int to, int seen) {
        if (from == to) {
            return new ArrayList<>();
        }
        for (int r = 0; r < colours.length; r++) {
            int[] road = roads.get(r);
            if (colours[r] != colour || road[0] != from && road[1] != from) {
                continue;
            }
            int next = road[0] == from ? road[1] : road[0];
            if ((seen >> next & 1) == 0) {
                List<Integer> rest = wayOf(colours, colour, next, to, seen | 1 << next);
                if (rest != null) {
                    rest.add(r);
                    return rest;
                }
            }
        }
        return null;
    }

    /** As many roads as can be are coloured so that no colour has a ring (Edmonds' exchanges); -1: without a colour. */
    private int[] coloured(int howMany) {
        int[] colours = new int[roads.size()];
        Arrays.fill(colours, -1);
        for (int r = 0; r < colours.length; r++) {
            colour(colours, r, howMany);
        }
        return colours;
    }

    private void colour(int[] colours, int start, int howMany) {
        int[] cameFrom = new int[colours.length];
        Arrays.fill(cameFrom, -2);
        cameFrom[start] = -1;
        List<Integer> queue = new ArrayList<>(List.of(start));
        for (int i = 0; i < queue.size(); i++) {
            int at = queue.get(i);
            int[] road = roads.get(at);
            for (int c = 0; c < howMany; c++) {
                if (c == colours[at]) {
                    continue;
                }
                List<Integer> ring = wayOf(colours, c, road[0], road[1], 1 << road[0]);
                if (ring == null) {
                    exchange(colours, cameFrom, at, c);
                    return;
                }
                for (int r : ring) {
                    if (cameFrom[r] == -2) {
                        cameFrom[r] = at;
                        queue.add(r);
                    }
                }
            }
        }
    }

    private static void exchange(int[] colours, int[] cameFrom, int last, int colour) {
        int free = colour;
        for (int at = last; at >= 0; at = cameFrom[at]) {
            int before = colours[at];
            colours[at] = free;
            free = before;
        }
    }

    /** Parts of a parting as sets; each post joins a part or makes a new one. Whether some parting leaves no room. */
    private boolean someParting(int post, List<Integer> parts, int trees) {
        if (post == posts) {
            int across = 0;
            for (int[] road : roads) {
                boolean within = false;
                for (int part : parts) {
                    within |= (part >> road[0] & 1) != 0 && (part >> road[1] & 1) != 0;
                }
                across += within ? 0 : 1;
            }
            return parts.size() > 1 && across < trees * (parts.size() - 1);
        }
        for (int i = 0; i < parts.size(); i++) {
            int before = parts.get(i);
            parts.set(i, before | 1 << post);
            boolean found = someParting(post + 1, parts, trees);
            parts.set(i, before);
            if (found) {
                return true;
            }
        }
        parts.add(1 << post);
        boolean found = someParting(post + 1, parts, trees);
        parts.remove(parts.size() - 1);
        return found;
    }

    private void packIsShown() {
        int trees = bench.pack();
        int[] colours = coloured(trees);
        for (int c = 0; c < trees; c++) {
            Check.due(name + "tree " + c + " of pack() = " + trees + " holds all together", heapsOf(colours, c), 1);
        }
        Check.holds(name + "no more than pack() = " + trees, someParting(0, new ArrayList<>(), trees + 1));
    }

    private void forestsAreShown() {
        int forests = bench.forests();
        int[] colours = coloured(forests);
        for (int r = 0; r < colours.length; r++) {
            Check.holds(name + "road " + r + " is in one of forests() = " + forests, colours[r] >= 0);
        }
        for (int c = 0; c < forests; c++) {
            Check.holds(name + "forest " + c + " has no ring", heapsOf(colours, c) > 0);
        }
        boolean dense = false;
        for (int set = 1; set <= all; set++) {
            int within = 0;
            for (int[] road : roads) {
                within += (set >> road[0] & 1) != 0 && (set >> road[1] & 1) != 0 ? 1 : 0;
            }
            dense |= within > (forests - 1) * (Integer.bitCount(set) - 1);
        }
        Check.holds(name + "no fewer than forests() = " + forests, forests == 0 ? roads.isEmpty() : dense);
    }

    /** Kirchhoff's determinant, by Bareiss' steps, which divide without a rest. */
    private void treesAreShown() {
        int n = posts - 1;
        BigInteger[][] rows = new BigInteger[n][n];
        for (BigInteger[] row : rows) {
            Arrays.fill(row, BigInteger.ZERO);
        }
        for (int[] road : roads) {
            for (int i = 0; i < 2; i++) {
                int a = road[i];
                int b = road[1 - i];
                if (a < n) {
                    rows[a][a] = rows[a][a].add(BigInteger.ONE);
                    if (b < n) {
                        rows[a][b] = rows[a][b].subtract(BigInteger.ONE);
                    }
                }
            }
        }
        BigInteger before = BigInteger.ONE;
        for (int k = 0; k + 1 < n; k++) {
            if (rows[k][k].signum() == 0) {
                before = BigInteger.ZERO;
                break;
            }
            for (int i = k + 1; i < n; i++) {
                for (int j = k + 1; j < n; j++) {
                    rows[i][j] = rows[i][j].multiply(rows[k][k]).subtract(rows[i][k].multiply(rows[k][j]))
                            .divide(before);
                }
            }
            before = rows[k][k];
        }
        BigInteger due = before.signum() == 0 ? before : rows[n - 1][n - 1];
        Check.due(name + "trees()", bench.trees(), due.longValueExact());
    }

    private int[] cutSizes(int left) {
        int[] sizes = new int[all + 1];
        for (int set = 1; set < all; set++) {
            for (int r = 0; r < roads.size(); r++) {
                sizes[set] += (left >> r & 1) != 0 && leadsOut(roads.get(r), set) ? 1 : 0;
            }
        }
        return sizes;
    }

    /** Whether each set with a post but without all has so many roads out. */
    private boolean leadOut(int left, int root, int atLeast) {
        int[] sizes = cutSizes(left);
        for (int set = 1; set < all; set++) {
            if ((set >> root & 1) != 0 && sizes[set] < atLeast) {
                return false;
            }
        }
        return true;
    }

    /** An arm grows by a road that leaves enough for the other arms (Lovasz); the roads that are left; -1: none grew. */
    private int withoutAnArm(int left, int root, int otherArms) {
        int reached = 1 << root;
        int rest = left;
        while (reached != all) {
            int grown = -1;
            for (int r = 0; r < roads.size() && grown < 0; r++) {
                if ((rest >> r & 1) != 0 && leadsOut(roads.get(r), reached)
                        && leadOut(rest & ~(1 << r), root, otherArms)) {
                    grown = r;
                }
            }
            if (grown < 0) {
                return -1;
            }
            reached |= 1 << roads.get(grown)[1];
            rest &= ~(1 << grown);
        }
        return rest;
    }

    private void armsAreShown() {
        for (int root = 0; root < posts; root++) {
            int arms = bench.arms(root);
            int left = (1 << roads.size()) - 1;
            for (int more = arms - 1; more >= 0 && left >= 0; more--) {
                left = withoutAnArm(left, root, more);
            }
            Check.holds(name + "there are arms(" + root + ") = " + arms, left >= 0);
            Check.holds(name + "no more than arms(" + root + ") = " + arms,
                    !leadOut((1 << roads.size()) - 1, root, arms + 1));
        }
    }

    /** The most that sets without a common post lack together. */
    private int lacking(int[] sizes, int k) {
        int[] most = new int[all + 1];
        for (int set = 1; set <= all; set++) {
            for (int part = set; part > 0; part = (part - 1) & set) {
                int lack = part == all ? 0 : Math.max(0, k - sizes[part]);
                most[set] = Math.max(most[set], lack + most[set ^ part]);
            }
        }
        return most[all];
    }

    /** A new road lowers what two sets lack, by one each; and of heaps without a road between it makes one less. */
    private int atLeast(int[] sizes, int k) {
        int lacking = lacking(sizes, k);
        return k == 1 ? Math.max(0, lacking - 1) : (lacking + 1) / 2;
    }

    private boolean isHard(int[] sizes, int k) {
        for (int set = 1; set < all; set++) {
            if (sizes[set] < k) {
                return false;
            }
        }
        return true;
    }

    private static int[] withRoad(int[] sizes, int a, int b) {
        int[] more = sizes.clone();
        for (int set = 1; set < more.length; set++) {
            more[set] += (set >> a & 1) != (set >> b & 1) ? 1 : 0;
        }
        return more;
    }

    /** The cuts with one new road more, after which one less is wanted; null: there is no such road. */
    private int[] oneStep(int[] sizes, int k, int wanted) {
        for (int a = 0; a < posts; a++) {
            for (int b = a + 1; b < posts; b++) {
                int[] more = withRoad(sizes, a, b);
                if (atLeast(more, k) < wanted) {
                    return more;
                }
            }
        }
        return null;
    }

    private void harderIsShown() {
        for (int k = 1; k <= 8; k++) {
            int[] sizes = cutSizes((1 << roads.size()) - 1);
            int fewest = bench.harder(k);
            Check.holds(name + "no fewer than harder(" + k + ") = " + fewest, atLeast(sizes, k) >= fewest);
            for (int left = fewest; left > 0 && sizes != null; left--) {
                sizes = oneStep(sizes, k, left);
            }
            Check.holds(name + "so many roads as harder(" + k + ") = " + fewest + " are enough",
                    sizes != null && isHard(sizes, k));
        }
    }
}
