import java.util.ArrayList;
import java.util.List;

/**
 * A net asked by the document's own words: ways are walked, flows pushed, trees and rings listed one by one. It shares
 * no way of counting with the class under test, and is meant for small nets.
 */
final class SlowNet {
    static final class Road {
        final int a;
        final int b;
        final int price;
        final int strength;

        Road(int a, int b, int price, int strength) {
            this.a = a;
            this.b = b;
            this.price = price;
            this.strength = strength;
        }
    }

    final boolean turned;
    int posts;
    final List<Road> roads = new ArrayList<>();

    SlowNet(boolean turned) {
        this.turned = turned;
    }

    SlowNet twin() {
        return with(posts, turned, (1 << roads.size()) - 1);
    }

    private SlowNet with(int newPosts, boolean newTurned, int set) {
        SlowNet net = new SlowNet(newTurned);
        net.posts = newPosts;
        for (int r = 0; r < roads.size(); r++) {
            if ((set >> r & 1) != 0) {
                net.roads.add(roads.get(r));
            }
        }
        return net;
    }

    SlowNet only(int set) {
        return with(posts, turned, set);
    }

    /** Without a set of posts and their roads. */
    SlowNet withoutPosts(int set) {
        int[] number = new int[posts];
        SlowNet net = new SlowNet(turned);
        for (int p = 0; p < posts; p++) {
            number[p] = (set >> p & 1) != 0 ? -1 : net.posts++;
        }
        for (Road r : roads) {
            if (number[r.a] >= 0 && number[r.b] >= 0) {
                net.roads.add(new Road(number[r.a], number[r.b], r.price, r.strength));
            }
        }
        return net;
    }

    SlowNet joined(int a, int b) {
        SlowNet net = new SlowNet(turned);
        net.posts = posts - 1;
        for (Road r : roads) {
            int from = r.a == b ? a : r.a > b ? r.a - 1 : r.a;
            int to = r.b == b ? a : r.b > b ? r.b - 1 : r.b;
            if (from != to) {
                net.roads.add(new Road(from, to, r.price, r.strength));
            }
        }
        return net;
    }

    boolean hasWay(int a, int b) {
        boolean[] seen = new boolean[posts];
        walk(a, seen);
        return seen[b];
    }

    private void walk(int at, boolean[] seen) {
        seen[at] = true;
        for (Road r : roads) {
            if (r.a == at && !seen[r.b]) {
                walk(r.b, seen);
            }
            if (!turned && r.b == at && !seen[r.a]) {
                walk(r.a, seen);
            }
        }
    }

    boolean hangs() {
        for (int a = 0; a < posts; a++) {
            for (int b = 0; b < posts; b++) {
                if (!hasWay(a, b)) {
                    return false;
                }
            }
        }
        return posts > 0;
    }

    int cutSize(int set) {
        int size = 0;
        for (Road r : roads) {
            boolean in = (set >> r.a & 1) != 0;
            boolean to = (set >> r.b & 1) != 0;
            if (in && !to || !turned && to && !in) {
                size++;
            }
        }
        return size;
    }

    int hold(int a, int b) {
        int[][] room = new int[posts][posts];
        for (Road r : roads) {
            room[r.a][r.b]++;
            if (!turned) {
                room[r.b][r.a]++;
            }
        }
        return flow(room, a, b);
    }

    private static int flow(int[][] room, int a, int b) {
        int flow = 0;
        while (push(room, a, b, new boolean[room.length])) {
            flow++;
        }
        return flow;
    }

    private static boolean push(int[][] room, int at, int goal, boolean[] seen) {
        if (at == goal) {
            return true;
        }
        seen[at] = true;
        for (int next = 0; next < room.length; next++) {
            if (!seen[next] && room[at][next] > 0 && push(room, next, goal, seen)) {
                room[at][next]--;
                room[next][at]++;
                return true;
            }
        }
        return false;
    }

    int cut(int a, int b) {
        int hold = hold(a, b);
        int smallest = -1;
        for (int set = 0; set < 1 << posts; set++) {
            boolean parts = (set >> a & 1) != 0 && (set >> b & 1) == 0;
            if (parts && cutSize(set) == hold
                    && (smallest < 0 || Integer.bitCount(set) < Integer.bitCount(smallest))) {
                smallest = set;
            }
        }
        return smallest;
    }

    int netHold() {
        int least = posts < 2 ? 0 : Integer.MAX_VALUE;
        for (int a = 0; a < posts; a++) {
            for (int b = 0; b < posts; b++) {
                if (a != b) {
                    least = Math.min(least, hold(a, b));
                }
            }
        }
        return least;
    }

    List<Integer> leastSets() {
        List<Integer> sets = new ArrayList<>();
        int hold = netHold();
        for (int set = 1; set < (1 << posts) - 1; set++) {
            if ((turned || (set & 1) == 0) && cutSize(set) == hold) {
                sets.add(set);
            }
        }
        return sets;
    }

    /** Each post but a and b is a gate of one. */
    int apart(int a, int b) {
        int[][] room = new int[2 * posts][2 * posts];
        for (int p = 0; p < posts; p++) {
            room[2 * p][2 * p + 1] = p == a || p == b ? 1000 : 1;
        }
        for (Road r : roads) {
            room[2 * r.a + 1][2 * r.b]++;
            if (!turned) {
                room[2 * r.b + 1][2 * r.a]++;
            }
        }
        return flow(room, 2 * a, 2 * b + 1);
    }

    int heap(int post, int k) {
        for (int p = 0; p < posts; p++) {
            if (p == post || hold(post, p) >= k) {
                return p;
            }
        }
        return -1;
    }

    private boolean parts(SlowNet smaller, int[] number) {
        for (int a = 0; a < posts; a++) {
            for (int b = 0; b < posts; b++) {
                if (number[a] >= 0 && number[b] >= 0 && hasWay(a, b) && !smaller.hasWay(number[a], number[b])) {
                    return true;
                }
            }
        }
        return false;
    }

    int bridges() {
        int set = 0;
        int[] same = new int[posts];
        for (int p = 0; p < posts; p++) {
            same[p] = p;
        }
        for (int r = 0; r < roads.size(); r++) {
            if (parts(only(~(1 << r)), same)) {
                set |= 1 << r;
            }
        }
        return set;
    }

    int joints() {
        int set = 0;
        for (int gone = 0; gone < posts; gone++) {
            int[] number = new int[posts];
            for (int p = 0; p < posts; p++) {
                number[p] = p == gone ? -1 : p > gone ? p - 1 : p;
            }
            if (parts(withoutPosts(1 << gone), number)) {
                set |= 1 << gone;
            }
        }
        return set;
    }

    int block(int road) {
        int[] least = {road};
        Road r = roads.get(road);
        rings(r.b, r.a, 1 << r.b | 1 << r.a, road, 1 << road, least);
        return least[0];
    }

    private void rings(int at, int goal, int seen, int start, int used, int[] least) {
        for (int r = 0; r < roads.size(); r++) {
            Road road = roads.get(r);
            if (r == start || road.a != at && road.b != at) {
                continue;
            }
            int next = road.a == at ? road.b : road.a;
            if (next == goal) {
                least[0] = Math.min(least[0], Integer.numberOfTrailingZeros(used | 1 << r));
            } else if ((seen >> next & 1) == 0) {
                rings(next, goal, seen | 1 << next, start, used | 1 << r, least);
            }
        }
    }

    int harder(int k) {
        for (int more = 0; ; more++) {
            if (canHarden(k, more, 0)) {
                return more;
            }
        }
    }

    private boolean canHarden(int k, int more, int firstPair) {
        if (more == 0) {
            return netHold() >= k;
        }
        int pair = 0;
        for (int a = 0; a < posts; a++) {
            for (int b = a + 1; b < posts; b++, pair++) {
                if (pair < firstPair) {
                    continue;
                }
                roads.add(new Road(a, b, 1, 4));
                boolean can = canHarden(k, more - 1, pair);
                roads.remove(roads.size() - 1);
                if (can) {
                    return true;
                }
            }
        }
        return false;
    }

    /** -1: none is. */
    int best(int k) {
        int best = -1;
        int leastPrice = Integer.MAX_VALUE;
        for (int set = 0; set < 1 << roads.size(); set++) {
            SlowNet some = only(set);
            int price = some.priceOfAll();
            if (price < leastPrice && posts >= 2 && some.netHold() >= k) {
                best = set;
                leastPrice = price;
            }
        }
        return best;
    }

    int priceOfAll() {
        int sum = 0;
        for (Road r : roads) {
            sum += r.price;
        }
        return sum;
    }

    SlowNet taken() {
        int left = (1 << roads.size()) - 1;
        for (int r = 0; r < roads.size(); r++) {
            if (only(left & ~(1 << r)).netHold() == only(left).netHold()) {
                left &= ~(1 << r);
            }
        }
        return only(left);
    }

    private List<Integer> treeSets() {
        List<Integer> sets = new ArrayList<>();
        for (int set = 0; set < 1 << roads.size(); set++) {
            if (Integer.bitCount(set) == posts - 1 && only(set).hangs()) {
                sets.add(set);
            }
        }
        return sets;
    }

    private List<Integer> armSets(int root) {
        List<Integer> sets = new ArrayList<>();
        for (int set = 0; set < 1 << roads.size(); set++) {
            if (Integer.bitCount(set) == posts - 1) {
                SlowNet some = only(set);
                boolean all = true;
                for (int p = 0; p < posts; p++) {
                    all &= some.hasWay(root, p);
                }
                if (all) {
                    sets.add(set);
                }
            }
        }
        return sets;
    }

    private static int mostDisjoint(List<Integer> sets, int from, int used) {
        int most = 0;
        for (int i = from; i < sets.size(); i++) {
            if ((sets.get(i) & used) == 0) {
                most = Math.max(most, 1 + mostDisjoint(sets, i + 1, used | sets.get(i)));
            }
        }
        return most;
    }

    int pack() {
        return posts < 2 ? 0 : mostDisjoint(treeSets(), 0, 0);
    }

    int arms(int root) {
        return mostDisjoint(armSets(root), 0, 0);
    }

    long trees() {
        return treeSets().size();
    }

    int forests() {
        for (int n = 0; ; n++) {
            if (canPart(0, new int[n])) {
                return n;
            }
        }
    }

    private boolean canPart(int road, int[] sets) {
        if (road == roads.size()) {
            return true;
        }
        Road r = roads.get(road);
        for (int i = 0; i < sets.length; i++) {
            if (!only(sets[i]).hasWay(r.a, r.b)) {
                sets[i] |= 1 << road;
                boolean can = canPart(road + 1, sets);
                sets[i] &= ~(1 << road);
                if (can) {
                    return true;
                }
            }
        }
        return false;
    }

    int turns() {
        Boolean[] back = new Boolean[roads.size()];
        boolean[] seen = new boolean[posts];
        for (int p = 0; p < posts; p++) {
            if (!seen[p]) {
                turnFrom(p, seen, back);
            }
        }
        int set = 0;
        for (int r = 0; r < back.length; r++) {
            set |= back[r] ? 1 << r : 0;
        }
        return set;
    }

    private void turnFrom(int at, boolean[] seen, Boolean[] back) {
        seen[at] = true;
        for (int r = 0; r < back.length; r++) {
            Road road = roads.get(r);
            if (back[r] == null && (road.a == at || road.b == at)) {
                back[r] = road.b == at;
                int other = road.b == at ? road.a : road.b;
                if (!seen[other]) {
                    turnFrom(other, seen, back);
                }
            }
        }
    }

    boolean strong() {
        int back = roads.isEmpty() ? 0 : turns();
        SlowNet net = new SlowNet(true);
        net.posts = posts;
        for (int r = 0; r < roads.size(); r++) {
            Road road = roads.get(r);
            boolean turn = (back >> r & 1) != 0;
            net.roads.add(turn ? new Road(road.b, road.a, 1, 4) : road);
        }
        return net.hangs();
    }

    long chance() {
        long sum = 0;
        for (int set = 0; set < 1 << roads.size(); set++) {
            long ways = 1;
            for (int r = 0; r < roads.size(); r++) {
                int strength = roads.get(r).strength;
                ways *= (set >> r & 1) != 0 ? strength : 8 - strength;
            }
            if (ways != 0 && only(set).hangs()) {
                sum += ways;
            }
        }
        return sum;
    }

    boolean isWay(int a, int b, List<Integer> numbers) {
        List<Integer> seen = new ArrayList<>();
        seen.add(a);
        for (int r : numbers) {
            int at = seen.get(seen.size() - 1);
            if (r < 0 || r >= roads.size()) {
                return false;
            }
            Road road = roads.get(r);
            int next;
            if (road.a == at) {
                next = road.b;
            } else if (road.b == at && !turned) {
                next = road.a;
            } else {
                return false;
            }
            if (seen.contains(next)) {
                return false;
            }
            seen.add(next);
        }
        return seen.get(seen.size() - 1) == b;
    }

    int kind() {
        if (turned) {
            return 3;
        }
        return netHold() >= 2 ? 2 : hangs() ? 1 : 0;
    }
}
