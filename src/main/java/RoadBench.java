/**
 * A bench for nets that stand when roads fail. What each call promises stands in the project's document.
 *
 * <p>A net has at most 8 posts, so every question about cuts is asked of all its (at most 256) sets of posts. All
 * rows are made with the object and used again: no later call makes an object.
 */
public final class RoadBench {
    private static final int BEYOND = -1;
    private static final int MISSING = -2;
    private static final int SIZE = -3;
    private static final int KIND = -4;
    private static final int FULL = -5;
    private static final int NONE = -6;
    private static final int LONG = -7;
    private static final int TURNED = -8;

    /** What the asking of findings answers when there is none. */
    private static final int FINE = 0;

    private static final int MOST_POSTS = 8;
    private static final int SETS_OF_POSTS = 1 << MOST_POSTS;
    private static final int MOST_ROADS = 20;
    private static final int MOST_SEARCHED_ROADS = 12;
    private static final int MOST_PRICE = 1000;
    private static final int MOST_STRENGTH = 8;
    private static final int MOST_HARD = 8;
    private static final int MOST_UNDONE = 30;
    private static final int SHEETS = 4;
    private static final int MOST_NUMBERS = 24;
    private static final int MOST_WAITING = 60;
    private static final int SLOTS = 4;

    private static final int NET = 0;
    private static final int WHOLE = 1;
    private static final int HARD = 2;
    private static final int ONE_WAY = 3;
    private static final int NO_KIND = -1;
    /** The kind that each kind stands under. */
    private static final int[] KIND_ABOVE = {NO_KIND, NET, WHOLE, NET};

    private final Net net;
    private final Past past;
    private final Net[] slots;
    private final int[] slotKinds;
    private final Sheet[] sheets;
    private final int[] waiting;
    private int waits;
    private int findings;
    private final Plan plan;
    private final Hardening hardening;
    private final Cheapest cheapest;
    private final Packing packing;
    private final Walk walk;
    private final Chances chances;

    public RoadBench() {
        net = new Net();
        past = new Past();
        slots = new Net[SLOTS];
        slotKinds = new int[SLOTS];
        for (int i = 0; i < SLOTS; i++) {
            slots[i] = new Net();
            slotKinds[i] = NO_KIND;
        }
        sheets = new Sheet[SHEETS];
        for (int i = 0; i < SHEETS; i++) {
            sheets[i] = new Sheet();
        }
        waiting = new int[MOST_WAITING];
        plan = new Plan();
        hardening = new Hardening();
        cheapest = new Cheapest();
        packing = new Packing();
        walk = new Walk();
        chances = new Chances();
    }

    // ---- the net

    public int anew(boolean turned) {
        int before = net.posts;
        past.remember(net);
        net.empty(turned);
        return before;
    }

    public int post() {
        if (net.posts >= MOST_POSTS) {
            return finding(FULL);
        }
        past.remember(net);
        return net.addPost();
    }

    public int road(int a, int b) {
        int fault = faultOfTwo(a, b);
        if (fault == FINE && net.roads >= MOST_ROADS) {
            fault = FULL;
        }
        if (fault != FINE) {
            return finding(fault);
        }
        past.remember(net);
        return net.addRoad(a, b);
    }

    public int worth(int road, boolean strength, int v) {
        if (isNoRoad(road) || v < 0 || v > (strength ? MOST_STRENGTH : MOST_PRICE)) {
            return finding(BEYOND);
        }
        past.remember(net);
        int[] row = strength ? net.strength : net.price;
        int before = row[road];
        row[road] = v;
        return before;
    }

    public int drop(int road) {
        if (isNoRoad(road)) {
            return finding(BEYOND);
        }
        past.remember(net);
        net.leaveOnly(setOfFirst(net.roads) & ~(1 << road));
        return net.roads;
    }

    public int join(int a, int b) {
        if (isNoPost(a) || isNoPost(b)) {
            return finding(BEYOND);
        }
        if (a >= b) {
            return finding(SIZE);
        }
        past.remember(net);
        net.melt(a, b);
        return net.posts;
    }

    public int of(int road, int what) {
        if (isNoRoad(road)) {
            return finding(BEYOND);
        }
        switch (what) {
            case 0:
                return net.first[road];
            case 1:
                return net.second[road];
            case 2:
                return net.price[road];
            case 3:
                return net.strength[road];
            default:
                return finding(BEYOND);
        }
    }

    public int undo() {
        if (past.kept == 0) {
            return finding(NONE);
        }
        past.restore(net);
        return past.kept;
    }

    // ---- sheets

    public int sheet(int s, int bits, int n) {
        if (isNoSheet(s) || (bits != 0 && bits != 8 && bits != 16 && bits != 32)) {
            return finding(BEYOND);
        }
        if (n < 0) {
            return finding(SIZE);
        }
        if (n > MOST_NUMBERS) {
            return finding(BEYOND);
        }
        return sheets[s].become(bits, n);
    }

    public int put(int s, int i, int v) {
        if (isNoSheet(s)) {
            return finding(BEYOND);
        }
        Sheet target = sheets[s];
        if (target.isMissing()) {
            return finding(MISSING);
        }
        if (i < 0 || i >= target.size) {
            return finding(BEYOND);
        }
        target.write(i, v);
        return 0;
    }

    public int copy(int s, int from, int t, int to, int n) {
        if (isNoSheet(s) || isNoSheet(t)) {
            return finding(BEYOND);
        }
        Sheet source = sheets[s];
        Sheet target = sheets[t];
        if (source.isMissing() || target.isMissing()) {
            return finding(MISSING);
        }
        if (source.bits != target.bits) {
            return finding(KIND);
        }
        if (!source.hasRow(from, n) || !target.hasRow(to, n)) {
            return finding(BEYOND);
        }
        System.arraycopy(source.numbers, from, target.numbers, to, n);
        return n;
    }

    public int lay(int s) {
        int fault = faultOfLaying(s);
        if (fault != FINE) {
            return finding(fault);
        }
        past.remember(net);
        int[] numbers = sheets[s].numbers;
        int pairs = sheets[s].size / 2;
        for (int i = 0; i < pairs; i++) {
            net.addRoad(numbers[2 * i], numbers[2 * i + 1]);
        }
        return pairs;
    }

    private int faultOfLaying(int s) {
        if (isNoSheet(s)) {
            return BEYOND;
        }
        if (sheets[s].isMissing()) {
            return MISSING;
        }
        int pairs = sheets[s].size / 2;
        int fault = faultOfPairs(sheets[s].numbers, pairs);
        if (fault == FINE && net.roads + pairs > MOST_ROADS) {
            fault = FULL;
        }
        return fault;
    }

    // ---- holds, cuts

    public int hold(int a, int b) {
        int fault = faultOfTwo(a, b);
        if (fault != FINE) {
            return finding(fault);
        }
        plan.read(net);
        return plan.holdOf(a, b);
    }

    public int cut(int a, int b) {
        int fault = faultOfTwo(a, b);
        if (fault != FINE) {
            return finding(fault);
        }
        plan.read(net);
        return plan.smallestSide(a, b);
    }

    public int netHold() {
        plan.read(net);
        return plan.holdOfRoads(plan.allRoads);
    }

    public int least(int i) {
        plan.read(net);
        int hold = plan.holdOfRoads(plan.allRoads);
        if (i == -1) {
            return plan.howManyOfCut(hold);
        }
        int set = plan.setOfCut(hold, i);
        return set == 0 ? finding(NONE) : set;
    }

    public int apart(int a, int b) {
        int fault = faultOfTwo(a, b);
        if (fault != FINE) {
            return finding(fault);
        }
        plan.read(net);
        return plan.waysApart(a, b);
    }

    public int heap(int post, int k) {
        if (isNoPost(post) || k < 1) {
            return finding(BEYOND);
        }
        if (net.turned) {
            return finding(TURNED);
        }
        plan.read(net);
        return plan.leastOfHeap(post, k);
    }

    public int still(boolean posts, int set) {
        plan.read(net);
        int known = posts ? plan.all : plan.allRoads;
        if ((set & ~known) != 0) {
            return finding(BEYOND);
        }
        boolean stands = posts ? plan.hangsAmong(known & ~set) : plan.hangsBy(known & ~set);
        return stands ? 1 : 0;
    }

    // ---- bridges, blocks

    public int bridges() {
        if (net.turned) {
            return finding(TURNED);
        }
        plan.read(net);
        return plan.loneRoads();
    }

    public int joints() {
        if (net.turned) {
            return finding(TURNED);
        }
        plan.read(net);
        return plan.partingPosts();
    }

    public int block(int road) {
        if (isNoRoad(road)) {
            return finding(BEYOND);
        }
        if (net.turned) {
            return finding(TURNED);
        }
        plan.read(net);
        return lowest(plan.blockOf(road, net));
    }

    // ---- harder, cheaper

    public int harder(int k) {
        if (k < 1 || k > MOST_HARD) {
            return finding(BEYOND);
        }
        if (net.turned) {
            return finding(TURNED);
        }
        if (net.posts < 2) {
            return finding(NONE);
        }
        plan.read(net);
        return hardening.fewestRoads(plan, k);
    }

    public int best(int k) {
        if (k < 1 || k > MOST_HARD) {
            return finding(BEYOND);
        }
        if (net.roads > MOST_SEARCHED_ROADS) {
            return finding(LONG);
        }
        plan.read(net);
        if (!plan.isHard(plan.allRoads, k)) {
            return finding(NONE);
        }
        return cheapest.find(plan, net, k);
    }

    public int take() {
        past.remember(net);
        plan.read(net);
        int hold = plan.holdOfRoads(plan.allRoads);
        int before = net.roads;
        int left = plan.allRoads;
        for (int road = 0; road < before; road++) {
            int without = left & ~(1 << road);
            if (plan.holdOfRoads(without) == hold) {
                left = without;
            }
        }
        net.leaveOnly(left);
        return before - net.roads;
    }

    // ---- trees

    public int pack() {
        if (net.turned) {
            return finding(TURNED);
        }
        plan.read(net);
        return packing.mostTrees(plan);
    }

    public int forests() {
        if (net.turned) {
            return finding(TURNED);
        }
        plan.read(net);
        return packing.fewestForests(plan);
    }

    public long trees() {
        if (net.turned) {
            return finding(TURNED);
        }
        plan.read(net);
        return packing.howManyTrees(plan);
    }

    public int arms(int post) {
        if (isNoPost(post)) {
            return finding(BEYOND);
        }
        if (!net.turned) {
            return finding(KIND);
        }
        if (net.posts == 1) {
            return finding(SIZE);
        }
        plan.read(net);
        return plan.leastHoldFrom(post);
    }

    // ---- turning, chances

    public int turns() {
        if (net.turned) {
            return finding(TURNED);
        }
        if (net.roads == 0) {
            return finding(NONE);
        }
        return walk.roadsTurnedBack(net);
    }

    public int strong() {
        if (net.turned) {
            return finding(TURNED);
        }
        plan.read(net);
        return plan.hangsTurned(walk.roadsTurnedBack(net)) ? 1 : 0;
    }

    public long chance() {
        if (net.turned && net.roads > MOST_SEARCHED_ROADS) {
            return finding(LONG);
        }
        plan.read(net);
        return chances.ofHanging(plan, net);
    }

    // ---- what is told is judged

    public int tell(int v) {
        if (waits >= MOST_WAITING) {
            return finding(FULL);
        }
        waiting[waits] = v;
        waits++;
        return waits;
    }

    public int would() {
        int told = waits;
        waits = 0;
        if (told % 2 != 0) {
            return finding(SIZE);
        }
        if (faultOfPairs(waiting, told / 2) != FINE) {
            return finding(BEYOND);
        }
        plan.read(net);
        return plan.holdWithPairs(waiting, told / 2);
    }

    public int way(int a, int b) {
        int told = waits;
        waits = 0;
        int fault = faultOfTwo(a, b);
        if (fault != FINE) {
            return finding(fault);
        }
        return net.endOfWay(a, waiting, told) == b ? 1 : 0;
    }

    // ---- slots

    public int keep(int slot) {
        if (isNoSlot(slot)) {
            return finding(BEYOND);
        }
        slots[slot].become(net);
        slotKinds[slot] = kindOfNet();
        return slotKinds[slot];
    }

    public int bring(int slot) {
        if (isNoSlot(slot)) {
            return finding(BEYOND);
        }
        if (slotKinds[slot] == NO_KIND) {
            return finding(NONE);
        }
        past.remember(net);
        net.become(slots[slot]);
        return net.posts;
    }

    public int as(int slot, int kind) {
        if (isNoSlot(slot) || kind < 0 || kind >= KIND_ABOVE.length) {
            return finding(BEYOND);
        }
        if (slotKinds[slot] == NO_KIND) {
            return finding(NONE);
        }
        if (!isKindUnder(slotKinds[slot], kind)) {
            return finding(KIND);
        }
        return slots[slot].roads;
    }

    public int told(int what) {
        switch (what) {
            case 0:
                return net.posts;
            case 1:
                return net.roads;
            case 2:
                return net.turned ? 1 : 0;
            case 3:
                plan.read(net);
                return plan.hangsBy(plan.allRoads) ? 1 : 0;
            case 4:
                return waits;
            case 5:
                return net.priceOfAll();
            case 6:
                return findings;
            default:
                return finding(BEYOND);
        }
    }

    // ---- what the acts share

    private int finding(int which) {
        findings++;
        return which;
    }

    private boolean isNoPost(int post) {
        return post < 0 || post >= net.posts;
    }

    private boolean isNoRoad(int road) {
        return road < 0 || road >= net.roads;
    }

    private static boolean isNoSheet(int s) {
        return s < 0 || s >= SHEETS;
    }

    private static boolean isNoSlot(int slot) {
        return slot < 0 || slot >= SLOTS;
    }

    private int faultOfTwo(int a, int b) {
        if (isNoPost(a) || isNoPost(b)) {
            return BEYOND;
        }
        return a == b ? SIZE : FINE;
    }

    /** BEYOND of any pair is asked ahead of SIZE of any, as the document orders them. */
    private int faultOfPairs(int[] numbers, int pairs) {
        int fault = FINE;
        for (int i = 0; i < pairs; i++) {
            int ofPair = faultOfTwo(numbers[2 * i], numbers[2 * i + 1]);
            if (ofPair == BEYOND) {
                return BEYOND;
            }
            if (ofPair != FINE) {
                fault = ofPair;
            }
        }
        return fault;
    }

    private int kindOfNet() {
        if (net.turned) {
            return ONE_WAY;
        }
        plan.read(net);
        if (plan.isHard(plan.allRoads, 2)) {
            return HARD;
        }
        return plan.hangsBy(plan.allRoads) ? WHOLE : NET;
    }

    private static boolean isKindUnder(int kind, int above) {
        int at = kind;
        for (int i = 0; i < KIND_ABOVE.length && at != NO_KIND; i++) {
            if (at == above) {
                return true;
            }
            at = KIND_ABOVE[at];
        }
        return false;
    }

    private static int setOfFirst(int n) {
        return (1 << n) - 1;
    }

    /** The least number in a set that is not empty. */
    private static int lowest(int set) {
        return Integer.bitCount((set & -set) - 1);
    }

    private static boolean has(int set, int number) {
        return (set >> number & 1) != 0;
    }

    /** Posts and roads with what they are worth. */
    private static final class Net {
        int posts;
        int roads;
        boolean turned;
        final int[] first = new int[MOST_ROADS];
        final int[] second = new int[MOST_ROADS];
        final int[] price = new int[MOST_ROADS];
        final int[] strength = new int[MOST_ROADS];

        void empty(boolean asTurned) {
            posts = 0;
            roads = 0;
            turned = asTurned;
        }

        void become(Net other) {
            posts = other.posts;
            roads = other.roads;
            turned = other.turned;
            System.arraycopy(other.first, 0, first, 0, roads);
            System.arraycopy(other.second, 0, second, 0, roads);
            System.arraycopy(other.price, 0, price, 0, roads);
            System.arraycopy(other.strength, 0, strength, 0, roads);
        }

        /** The caller has seen that there is room. */
        int addPost() {
            posts++;
            return posts - 1;
        }

        /** The caller has seen that there is room, and that both posts are there. */
        int addRoad(int a, int b) {
            int road = roads;
            first[road] = a;
            second[road] = b;
            price[road] = 1;
            strength[road] = 4;
            roads++;
            return road;
        }

        void leaveOnly(int set) {
            int before = roads;
            roads = 0;
            for (int road = 0; road < before; road++) {
                if (has(set, road)) {
                    first[roads] = first[road];
                    second[roads] = second[road];
                    price[roads] = price[road];
                    strength[roads] = strength[road];
                    roads++;
                }
            }
        }

        void melt(int a, int b) {
            int left = 0;
            for (int road = 0; road < roads; road++) {
                first[road] = numberAfterMelt(first[road], a, b);
                second[road] = numberAfterMelt(second[road], a, b);
                if (first[road] != second[road]) {
                    left |= 1 << road;
                }
            }
            leaveOnly(left);
            posts--;
        }

        private static int numberAfterMelt(int post, int a, int b) {
            if (post == b) {
                return a;
            }
            return post > b ? post - 1 : post;
        }

        /** Where a road leads from a post; -1: it does not. */
        private int otherEnd(int road, int post) {
            if (road < 0 || road >= roads) {
                return -1;
            }
            if (first[road] == post) {
                return second[road];
            }
            return !turned && second[road] == post ? first[road] : -1;
        }

        /** The post to which a way of roads leads from a post; -1: it is no way, or has a post twice. */
        int endOfWay(int start, int[] way, int length) {
            int at = start;
            int seen = 1 << start;
            for (int i = 0; i < length; i++) {
                at = otherEnd(way[i], at);
                if (at < 0 || has(seen, at)) {
                    return -1;
                }
                seen |= 1 << at;
            }
            return at;
        }

        int priceOfAll() {
            int sum = 0;
            for (int road = 0; road < roads; road++) {
                sum += price[road];
            }
            return sum;
        }
    }

    /** The nets as they were ahead of the latest acts: a ring, so that the oldest makes room. */
    private static final class Past {
        private final Net[] nets = new Net[MOST_UNDONE];
        private int next;
        int kept;

        Past() {
            for (int i = 0; i < MOST_UNDONE; i++) {
                nets[i] = new Net();
            }
        }

        void remember(Net net) {
            nets[next].become(net);
            next = (next + 1) % MOST_UNDONE;
            kept = Math.min(kept + 1, MOST_UNDONE);
        }

        /** The caller has seen that one is kept. */
        void restore(Net net) {
            next = (next + MOST_UNDONE - 1) % MOST_UNDONE;
            kept--;
            net.become(nets[next]);
        }
    }

    /** A row of numbers of some bits each; of 0 bits: it is missing. */
    private static final class Sheet {
        int bits;
        int size;
        final int[] numbers = new int[MOST_NUMBERS];

        int become(int newBits, int newSize) {
            bits = newBits;
            size = newBits == 0 ? 0 : newSize;
            for (int i = 0; i < size; i++) {
                numbers[i] = 0;
            }
            return size;
        }

        boolean isMissing() {
            return bits == 0;
        }

        void write(int i, int v) {
            numbers[i] = bits == 32 ? v : v & setOfFirst(bits);
        }

        /** Asked by taking away, as from + n may wrap around. */
        boolean hasRow(int from, int n) {
            return from >= 0 && n >= 0 && n <= size && from <= size - n;
        }
    }

    /**
     * A net looked at by its sets of posts: which roads start in each, end in it, and lead out of it. It is read anew
     * for each question, so that it never tells of a net that has changed.
     */
    private static final class Plan {
        int posts;
        int roads;
        boolean turned;
        int all;
        int allRoads;
        /**
         * The sets side << sideShift, for each side from 1 on below this, have every cut of the net: of a plain net a
         * set and its rest have the same one, so those without post 0 are enough.
         */
        private int sides;
        private int sideShift;
        final int[] starts = new int[SETS_OF_POSTS];
        final int[] ends = new int[SETS_OF_POSTS];
        final int[] near = new int[SETS_OF_POSTS];
        final int[] cuts = new int[SETS_OF_POSTS];

        void read(Net net) {
            posts = net.posts;
            roads = net.roads;
            turned = net.turned;
            all = setOfFirst(posts);
            allRoads = setOfFirst(roads);
            sides = turned ? all : (all + 1) / 2;
            sideShift = turned ? 0 : 1;
            readPosts(net);
            for (int set = 1; set <= all; set++) {
                int low = set & -set;
                starts[set] = starts[low] | starts[set ^ low];
                ends[set] = ends[low] | ends[set ^ low];
                near[set] = near[low] | near[set ^ low];
                cuts[set] = turned ? starts[set] & ~ends[set] : starts[set] ^ ends[set];
            }
        }

        private void readPosts(Net net) {
            for (int post = 0; post < posts; post++) {
                starts[1 << post] = 0;
                ends[1 << post] = 0;
                near[1 << post] = 0;
            }
            for (int road = 0; road < roads; road++) {
                int a = 1 << net.first[road];
                int b = 1 << net.second[road];
                starts[a] |= 1 << road;
                ends[b] |= 1 << road;
                near[a] |= b;
                if (!turned) {
                    near[b] |= a;
                }
            }
        }

        /** The roads that lead from one set to another that has no post of it. */
        int between(int from, int to) {
            int there = starts[from] & ends[to];
            return turned ? there : there | ends[from] & starts[to];
        }

        /** The posts to which ways lead from a set, by posts of another set alone. */
        private int reach(int from, int within) {
            int reached = from & within;
            for (int i = 0; i < posts; i++) {
                reached |= near[reached] & within;
            }
            return reached;
        }

        int holdOf(int a, int b) {
            int hold = roads;
            for (int set = 1; set < all; set++) {
                if (has(set, a) && !has(set, b)) {
                    hold = Math.min(hold, Integer.bitCount(cuts[set]));
                }
            }
            return hold;
        }

        /** What is common to all sets of the least cut is such a set too, and within them all. */
        int smallestSide(int a, int b) {
            int hold = holdOf(a, b);
            int common = all;
            for (int set = 1; set < all; set++) {
                if (has(set, a) && !has(set, b) && Integer.bitCount(cuts[set]) == hold) {
                    common &= set;
                }
            }
            return common;
        }

        /** The net's hold when only some of its roads are there. */
        int holdOfRoads(int some) {
            if (posts < 2) {
                return 0;
            }
            int hold = roads;
            for (int side = 1; side < sides; side++) {
                hold = Math.min(hold, Integer.bitCount(cuts[side << sideShift] & some));
            }
            return hold;
        }

        boolean isHard(int some, int k) {
            for (int side = 1; side < sides; side++) {
                if (Integer.bitCount(cuts[side << sideShift] & some) < k) {
                    return false;
                }
            }
            return posts > 1;
        }

        /** All hangs together when no set of posts is without a road out of it. */
        boolean hangsBy(int some) {
            for (int side = 1; side < sides; side++) {
                if ((cuts[side << sideShift] & some) == 0) {
                    return false;
                }
            }
            return posts > 0;
        }

        /** Whether some posts hang together by their own roads; one post or none does. */
        boolean hangsAmong(int some) {
            for (int set = (some - 1) & some; set > 0; set = (set - 1) & some) {
                if (between(set, some & ~set) == 0) {
                    return false;
                }
            }
            return true;
        }

        /** Whether a plain net hangs together with its roads turned, those of a set from second to first. */
        boolean hangsTurned(int back) {
            for (int set = 1; set < all; set++) {
                int out = starts[set] & ~ends[set] & ~back | ends[set] & ~starts[set] & back;
                if (out == 0) {
                    return false;
                }
            }
            return posts > 0;
        }

        int howManyOfCut(int hold) {
            int count = 0;
            for (int side = 1; side < sides; side++) {
                if (Integer.bitCount(cuts[side << sideShift]) == hold) {
                    count++;
                }
            }
            return count;
        }

        /** The i-th set whose cut has so many roads; 0: there is none. */
        int setOfCut(int hold, int i) {
            int count = 0;
            for (int side = 1; side < sides; side++) {
                int set = side << sideShift;
                if (Integer.bitCount(cuts[set]) == hold) {
                    if (count == i) {
                        return set;
                    }
                    count++;
                }
            }
            return 0;
        }

        /**
         * The roads from a to b are ways by themselves; of the other ways there are as many as the fewest posts that
         * lie around a set with a, without b.
         */
        int waysApart(int a, int b) {
            int start = 1 << a;
            int goal = 1 << b;
            int fewest = posts;
            for (int set = 1; set < all; set++) {
                if ((set & start) == 0 || (set & goal) != 0) {
                    continue;
                }
                int around = (near[start] & ~goal | near[set ^ start]) & ~set;
                if ((around & goal) == 0) {
                    fewest = Math.min(fewest, Integer.bitCount(around));
                }
            }
            return fewest + Integer.bitCount(between(start, goal));
        }

        int leastOfHeap(int post, int k) {
            for (int other = 0; other < post; other++) {
                if (holdOf(post, other) >= k) {
                    return other;
                }
            }
            return post;
        }

        int leastHoldFrom(int post) {
            int hold = roads;
            for (int set = 1; set < all; set++) {
                if (has(set, post)) {
                    hold = Math.min(hold, Integer.bitCount(cuts[set]));
                }
            }
            return hold;
        }

        /** A road is a bridge when it alone is the cut of some set. */
        int loneRoads() {
            int lone = 0;
            for (int side = 1; side < sides; side++) {
                if (Integer.bitCount(cuts[side << sideShift]) == 1) {
                    lone |= cuts[side << sideShift];
                }
            }
            return lone;
        }

        int partingPosts() {
            int parting = 0;
            for (int post = 0; post < posts; post++) {
                int others = all & ~(1 << post);
                int hung = reach(1 << post, all) & others;
                if (reach(hung & -hung, others) != hung) {
                    parting |= 1 << post;
                }
            }
            return parting;
        }

        /** Rings with a road in common make one block, so the block grows road by road. */
        int blockOf(int road, Net net) {
            int block = 1 << road;
            int open = block;
            for (int i = 0; i < roads && open != 0; i++) {
                int next = lowest(open);
                int a = 1 << net.first[next];
                int b = 1 << net.second[next];
                int more = (ringRoads(a, b) | ringRoads(b, a)) & ~block;
                block |= more;
                open = open & ~(1 << next) | more;
            }
            return block;
        }

        /** The roads at a post that close a ring with one from there to another post. */
        private int ringRoads(int post, int other) {
            return between(post, reach(other, all & ~post));
        }

        /** The net's hold when pairs of posts were roads too. */
        int holdWithPairs(int[] numbers, int pairs) {
            if (posts < 2) {
                return 0;
            }
            int hold = roads + pairs;
            for (int side = 1; side < sides; side++) {
                int set = side << sideShift;
                int size = Integer.bitCount(cuts[set]);
                for (int i = 0; i < pairs; i++) {
                    boolean starting = has(set, numbers[2 * i]);
                    boolean ending = has(set, numbers[2 * i + 1]);
                    if (turned ? starting && !ending : starting != ending) {
                        size++;
                    }
                }
                hold = Math.min(hold, size);
            }
            return hold;
        }
    }

    /** How many new roads a plain net wants. */
    private static final class Hardening {
        private final int[] most = new int[SETS_OF_POSTS];

        /**
         * A set of posts lacks k less the size of its cut. The most that sets without a common post lack together is
         * what new roads must bring, each with two ends (Watanabe and Nakamura; Frank). For k = 1 alone that is not
         * enough: each new road makes one heap of two.
         */
        int fewestRoads(Plan plan, int k) {
            most[0] = 0;
            for (int set = 1; set <= plan.all; set++) {
                most[set] = mostLacking(plan, k, set);
            }
            int lacking = most[plan.all];
            return k == 1 ? Math.max(0, lacking - 1) : (lacking + 1) / 2;
        }

        private int mostLacking(Plan plan, int k, int set) {
            int low = set & -set;
            int rest = set ^ low;
            int result = most[rest] + Math.max(0, lack(plan, k, low));
            for (int more = rest; more > 0; more = (more - 1) & rest) {
                if ((low | more) != plan.all) {
                    result = Math.max(result, lack(plan, k, low | more) + most[rest ^ more]);
                }
            }
            return result;
        }

        private static int lack(Plan plan, int k, int set) {
            return k - Integer.bitCount(plan.cuts[set]);
        }
    }

    /** The search for the cheapest roads that keep a net hard. */
    private static final class Cheapest {
        private Plan plan;
        private Net net;
        private int k;
        private int leastPrice;
        private int leastSet;

        /** The caller has seen that all roads are hard enough. */
        int find(Plan ofNet, Net whose, int hardness) {
            plan = ofNet;
            net = whose;
            k = hardness;
            leastPrice = MOST_ROADS * MOST_PRICE + 1;
            leastSet = 0;
            search(net.roads - 1, 0, 0);
            return leastSet;
        }

        /**
         * Roads are left out or chosen from the last one down, left out first: so sets come by their numbers, and a
         * later one must be cheaper. With all roads that are still open, what is chosen is always hard enough.
         */
        private void search(int road, int chosen, int price) {
            if (price >= leastPrice) {
                return;
            }
            if (road < 0) {
                leastPrice = price;
                leastSet = chosen;
                return;
            }
            if (plan.isHard(chosen | setOfFirst(road), k)) {
                search(road - 1, chosen, price);
            }
            search(road - 1, chosen | 1 << road, price + net.price[road]);
        }
    }

    /** Trees and forests of a plain net. */
    private static final class Packing {
        private Plan plan;
        private int packed;
        private final int[] parts = new int[MOST_POSTS];
        private final long[] treesOf = new long[SETS_OF_POSTS];

        /**
         * Each tree has a road less than there are parts between the parts of every parting of the posts, and the
         * parting that leaves room for the fewest tells how many there are (Tutte; Nash-Williams).
         */
        int mostTrees(Plan ofNet) {
            if (ofNet.posts < 2) {
                return 0;
            }
            plan = ofNet;
            packed = plan.roads;
            part(0, 0, 0);
            return packed;
        }

        private void part(int post, int used, int crossing) {
            int mostParts = used + plan.posts - post;
            if (mostParts < 2 || crossing / (mostParts - 1) >= packed) {
                return;
            }
            if (post >= plan.posts) {
                packed = crossing / (used - 1);
                return;
            }
            int earlier = setOfFirst(post);
            for (int i = 0; i <= used && i < MOST_POSTS; i++) {
                boolean isNew = i == used;
                int before = isNew ? 0 : parts[i];
                int across = Integer.bitCount(plan.between(1 << post, earlier & ~before));
                parts[i] = before | 1 << post;
                part(post + 1, isNew ? used + 1 : used, crossing + across);
                parts[i] = before;
            }
        }

        /** A forest has fewer roads within a set than it has posts; the densest set tells (Nash-Williams). */
        int fewestForests(Plan ofNet) {
            int fewest = 0;
            for (int set = 1; set <= ofNet.all; set++) {
                int room = Integer.bitCount(set) - 1;
                if (room > 0) {
                    int within = Integer.bitCount(ofNet.starts[set] & ofNet.ends[set]);
                    fewest = Math.max(fewest, (within + room - 1) / room);
                }
            }
            return fewest;
        }

        long howManyTrees(Plan ofNet) {
            if (ofNet.posts == 0) {
                return 0;
            }
            for (int set = 1; set <= ofNet.all; set++) {
                treesOf[set] = treesWithin(ofNet, set);
            }
            return treesOf[ofNet.all];
        }

        /** From the lowest post, one road leads to the branch that has the second lowest; the rest is a tree too. */
        private long treesWithin(Plan ofNet, int set) {
            int root = set & -set;
            int others = set ^ root;
            if (others == 0) {
                return 1;
            }
            int second = others & -others;
            int free = others ^ second;
            long count = treesByBranch(ofNet, root, second, set);
            for (int more = free; more > 0; more = (more - 1) & free) {
                count += treesByBranch(ofNet, root, second | more, set);
            }
            return count;
        }

        private long treesByBranch(Plan ofNet, int root, int branch, int set) {
            int roads = Integer.bitCount(ofNet.between(root, branch));
            return roads * treesOf[branch] * treesOf[set ^ branch];
        }
    }

    /** The walk that turns each road of a plain net. */
    private static final class Walk {
        private Net net;
        private int seen;
        private int done;
        private int back;

        int roadsTurnedBack(Net ofNet) {
            net = ofNet;
            seen = 0;
            done = 0;
            back = 0;
            for (int post = 0; post < net.posts; post++) {
                if (!has(seen, post)) {
                    visit(post, 0);
                }
            }
            return back;
        }

        private void visit(int post, int depth) {
            seen |= 1 << post;
            if (depth >= MOST_POSTS) {
                return;
            }
            for (int road = 0; road < net.roads; road++) {
                boolean isFirst = net.first[road] == post;
                if (has(done, road) || !isFirst && net.second[road] != post) {
                    continue;
                }
                done |= 1 << road;
                if (!isFirst) {
                    back |= 1 << road;
                }
                int other = isFirst ? net.second[road] : net.first[road];
                if (!has(seen, other)) {
                    visit(other, depth + 1);
                }
            }
        }
    }

    /** Chances that all hangs together, times 8 to the power of the number of roads (at most 2 to the power of 60). */
    private static final class Chances {
        private Plan plan;
        private Net net;
        private final long[] hanging = new long[SETS_OF_POSTS];

        long ofHanging(Plan ofNet, Net whose) {
            plan = ofNet;
            net = whose;
            if (!plan.hangsBy(plan.allRoads)) {
                return 0;
            }
            return plan.turned ? sumOver(0, 0) : ofPlain();
        }

        /** Roads are there or not one by one; those from a road on are open, and with them all hangs together. */
        private long sumOver(int road, int there) {
            if (road >= plan.roads) {
                return 1;
            }
            int strength = net.strength[road];
            long sum = 0;
            if (strength > 0) {
                sum = strength * sumOver(road + 1, there | 1 << road);
            }
            int without = there | plan.allRoads & ~setOfFirst(road + 1);
            if (strength < MOST_STRENGTH && plan.hangsBy(without)) {
                sum += (MOST_STRENGTH - strength) * sumOver(road + 1, there);
            }
            return sum;
        }

        /** Only sets with post 0 are asked: where not all hangs together, some such set does, cut off from the rest. */
        private long ofPlain() {
            for (int set = 1; set <= plan.all; set += 2) {
                int others = set ^ 1;
                long sum = allWays(set);
                for (int off = others; off > 0; off = (off - 1) & others) {
                    sum -= cutOff(set ^ off, off);
                }
                hanging[set] = sum;
            }
            return hanging[plan.all];
        }

        private long cutOff(int set, int off) {
            long ways = hanging[set];
            if (ways == 0) {
                return 0;
            }
            int roads = plan.between(set, off);
            for (int i = 0; i < MOST_ROADS && roads != 0; i++) {
                ways *= MOST_STRENGTH - net.strength[lowest(roads)];
                roads &= roads - 1;
            }
            return ways == 0 ? 0 : ways * allWays(off);
        }

        private long allWays(int set) {
            return 1L << 3 * Integer.bitCount(plan.starts[set] & plan.ends[set]);
        }
    }
}
