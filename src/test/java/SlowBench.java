import java.util.ArrayDeque;
import java.util.ArrayList;
import java.util.Deque;
import java.util.List;

/** The whole bench by the document's words, over SlowNet, to be compared with the class under test. */
final class SlowBench {
    SlowNet net = new SlowNet(false);
    private final Deque<SlowNet> past = new ArrayDeque<>();
    private final SlowNet[] slots = new SlowNet[4];
    private final int[][] sheets = new int[4][];
    private final int[] bitsOf = new int[4];
    final List<Integer> waiting = new ArrayList<>();
    private int findings;

    private int fail(int which) {
        findings++;
        return which;
    }

    private void change(SlowNet next) {
        past.push(net);
        if (past.size() > 30) {
            past.removeLast();
        }
        net = next;
    }

    private boolean post(int p) {
        return p >= 0 && p < net.posts;
    }

    private boolean roadThere(int r) {
        return r >= 0 && r < net.roads.size();
    }

    private int two(int a, int b) {
        return !post(a) || !post(b) ? -1 : a == b ? -3 : 0;
    }

    int anew(boolean turned) {
        int before = net.posts;
        change(new SlowNet(turned));
        return before;
    }

    int post() {
        if (net.posts == 8) {
            return fail(-5);
        }
        change(net.twin());
        return net.posts++;
    }

    int road(int a, int b) {
        if (two(a, b) != 0) {
            return fail(two(a, b));
        }
        if (net.roads.size() == 20) {
            return fail(-5);
        }
        change(net.twin());
        net.roads.add(new SlowNet.Road(a, b, 1, 4));
        return net.roads.size() - 1;
    }

    int worth(int road, boolean strength, int v) {
        if (!roadThere(road) || v < 0 || v > (strength ? 8 : 1000)) {
            return fail(-1);
        }
        change(net.twin());
        SlowNet.Road r = net.roads.get(road);
        net.roads.set(road, strength
                ? new SlowNet.Road(r.a, r.b, r.price, v) : new SlowNet.Road(r.a, r.b, v, r.strength));
        return strength ? r.strength : r.price;
    }

    int drop(int road) {
        if (!roadThere(road)) {
            return fail(-1);
        }
        change(net.twin());
        net.roads.remove(road);
        return net.roads.size();
    }

    int join(int a, int b) {
        if (!post(a) || !post(b)) {
            return fail(-1);
        }
        if (a >= b) {
            return fail(-3);
        }
        change(net.joined(a, b));
        return net.posts;
    }

    int of(int road, int what) {
        if (!roadThere(road) || what < 0 || what > 3) {
            return fail(-1);
        }
        SlowNet.Road r = net.roads.get(road);
        return new int[] {r.a, r.b, r.price, r.strength}[what];
    }

    int undo() {
        if (past.isEmpty()) {
            return fail(-6);
        }
        net = past.pop();
        return past.size();
    }

    int sheet(int s, int bits, int n) {
        if (s < 0 || s > 3 || bits != 0 && bits != 8 && bits != 16 && bits != 32) {
            return fail(-1);
        }
        if (n < 0) {
            return fail(-3);
        }
        if (n > 24) {
            return fail(-1);
        }
        sheets[s] = bits == 0 ? null : new int[n];
        bitsOf[s] = bits;
        return bits == 0 ? 0 : n;
    }

    int put(int s, int i, int v) {
        if (s < 0 || s > 3) {
            return fail(-1);
        }
        if (sheets[s] == null) {
            return fail(-2);
        }
        if (i < 0 || i >= sheets[s].length) {
            return fail(-1);
        }
        sheets[s][i] = bitsOf[s] == 8 ? v & 0xff : bitsOf[s] == 16 ? v & 0xffff : v;
        return 0;
    }

    int copy(int s, int from, int t, int to, int n) {
        if (s < 0 || s > 3 || t < 0 || t > 3) {
            return fail(-1);
        }
        if (sheets[s] == null || sheets[t] == null) {
            return fail(-2);
        }
        if (bitsOf[s] != bitsOf[t]) {
            return fail(-4);
        }
        if (from < 0 || to < 0 || n < 0 || (long) from + n > sheets[s].length || (long) to + n > sheets[t].length) {
            return fail(-1);
        }
        int[] row = java.util.Arrays.copyOfRange(sheets[s], from, from + n);
        for (int i = 0; i < n; i++) {
            sheets[t][to + i] = row[i];
        }
        return n;
    }

    int lay(int s) {
        if (s < 0 || s > 3) {
            return fail(-1);
        }
        if (sheets[s] == null) {
            return fail(-2);
        }
        int pairs = sheets[s].length / 2;
        for (int i = 0; i < 2 * pairs; i++) {
            if (!post(sheets[s][i])) {
                return fail(-1);
            }
        }
        for (int i = 0; i < pairs; i++) {
            if (sheets[s][2 * i] == sheets[s][2 * i + 1]) {
                return fail(-3);
            }
        }
        if (net.roads.size() + pairs > 20) {
            return fail(-5);
        }
        change(net.twin());
        for (int i = 0; i < pairs; i++) {
            net.roads.add(new SlowNet.Road(sheets[s][2 * i], sheets[s][2 * i + 1], 1, 4));
        }
        return pairs;
    }

    int hold(int a, int b) {
        return two(a, b) != 0 ? fail(two(a, b)) : net.hold(a, b);
    }

    int cut(int a, int b) {
        return two(a, b) != 0 ? fail(two(a, b)) : net.cut(a, b);
    }

    int netHold() {
        return net.netHold();
    }

    int least(int i) {
        List<Integer> sets = net.leastSets();
        if (i == -1) {
            return sets.size();
        }
        return i < 0 || i >= sets.size() ? fail(-6) : sets.get(i);
    }

    int apart(int a, int b) {
        return two(a, b) != 0 ? fail(two(a, b)) : net.apart(a, b);
    }

    int heap(int post, int k) {
        if (!post(post) || k < 1) {
            return fail(-1);
        }
        return net.turned ? fail(-8) : net.heap(post, k);
    }

    int still(boolean posts, int set) {
        int count = posts ? net.posts : net.roads.size();
        for (int bit = 0; bit < 32; bit++) {
            if ((set >> bit & 1) != 0 && bit >= count) {
                return fail(-1);
            }
        }
        if (!posts) {
            return net.only(~set).hangs() ? 1 : 0;
        }
        SlowNet left = net.withoutPosts(set);
        return left.posts <= 1 || left.hangs() ? 1 : 0;
    }

    int bridges() {
        return net.turned ? fail(-8) : net.bridges();
    }

    int joints() {
        return net.turned ? fail(-8) : net.joints();
    }

    int block(int road) {
        if (!roadThere(road)) {
            return fail(-1);
        }
        return net.turned ? fail(-8) : net.block(road);
    }

    int harder(int k) {
        if (k < 1 || k > 8) {
            return fail(-1);
        }
        if (net.turned) {
            return fail(-8);
        }
        return net.posts < 2 ? fail(-6) : net.twin().harder(k);
    }

    int best(int k) {
        if (k < 1 || k > 8) {
            return fail(-1);
        }
        if (net.roads.size() > 12) {
            return fail(-7);
        }
        int best = net.best(k);
        return best < 0 ? fail(-6) : best;
    }

    int take() {
        int before = net.roads.size();
        change(net.taken());
        return before - net.roads.size();
    }

    int pack() {
        return net.turned ? fail(-8) : net.pack();
    }

    int forests() {
        return net.turned ? fail(-8) : net.forests();
    }

    long trees() {
        return net.turned ? fail(-8) : net.posts == 0 ? 0 : net.trees();
    }

    int arms(int post) {
        if (!post(post)) {
            return fail(-1);
        }
        if (!net.turned) {
            return fail(-4);
        }
        return net.posts == 1 ? fail(-3) : net.arms(post);
    }

    int turns() {
        if (net.turned) {
            return fail(-8);
        }
        return net.roads.isEmpty() ? fail(-6) : net.turns();
    }

    int strong() {
        return net.turned ? fail(-8) : net.strong() ? 1 : 0;
    }

    long chance() {
        return net.turned && net.roads.size() > 12 ? fail(-7) : net.chance();
    }

    int tell(int v) {
        if (waiting.size() == 60) {
            return fail(-5);
        }
        waiting.add(v);
        return waiting.size();
    }

    int would() {
        List<Integer> numbers = new ArrayList<>(waiting);
        waiting.clear();
        if (numbers.size() % 2 == 1) {
            return fail(-3);
        }
        SlowNet more = net.twin();
        for (int i = 0; i < numbers.size(); i += 2) {
            int a = numbers.get(i);
            int b = numbers.get(i + 1);
            if (two(a, b) != 0) {
                return fail(-1);
            }
            more.roads.add(new SlowNet.Road(a, b, 1, 4));
        }
        return more.netHold();
    }

    int way(int a, int b) {
        List<Integer> numbers = new ArrayList<>(waiting);
        waiting.clear();
        return two(a, b) != 0 ? fail(two(a, b)) : net.isWay(a, b, numbers) ? 1 : 0;
    }

    int keep(int slot) {
        if (slot < 0 || slot > 3) {
            return fail(-1);
        }
        slots[slot] = net.twin();
        return net.kind();
    }

    int bring(int slot) {
        if (slot < 0 || slot > 3) {
            return fail(-1);
        }
        if (slots[slot] == null) {
            return fail(-6);
        }
        change(slots[slot].twin());
        return net.posts;
    }

    int as(int slot, int kind) {
        if (slot < 0 || slot > 3 || kind < 0 || kind > 3) {
            return fail(-1);
        }
        if (slots[slot] == null) {
            return fail(-6);
        }
        int own = slots[slot].kind();
        boolean is = kind == 0 || own == kind || own == 2 && kind == 1;
        return is ? slots[slot].roads.size() : fail(-4);
    }

    int told(int what) {
        switch (what) {
            case 0: return net.posts;
            case 1: return net.roads.size();
            case 2: return net.turned ? 1 : 0;
            case 3: return net.hangs() ? 1 : 0;
            case 4: return waiting.size();
            case 5: return net.priceOfAll();
            case 6: return findings;
            default: return fail(-1);
        }
    }
}
