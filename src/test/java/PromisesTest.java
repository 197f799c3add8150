/** Each promise by itself: ordinary inputs, the edges that the document names, its findings and their order. */
public final class PromisesTest extends WithNets {
    private PromisesTest() {
    }

    public static void main(String[] args) {
        aNewObject();
        anew();
        post();
        road();
        worth();
        drop();
        join();
        of();
        undo();
        undoOfEachAct();
        sheet();
        put();
        copy();
        lay();
        hold();
        cut();
        netHold();
        least();
        apart();
        heap();
        still();
        bridges();
        joints();
        block();
        harder();
        best();
        take();
        pack();
        forests();
        trees();
        arms();
        turns();
        strong();
        chance();
        tell();
        would();
        way();
        keep();
        bring();
        as();
        told();
        findingsAreCounted();
        Check.end();
    }

    private static void aNewObject() {
        RoadBench x = new RoadBench();
        for (int what = 0; what <= 6; what++) {
            Check.due("new: told(" + what + ")", x.told(what), 0);
        }
        Check.due("new: undo()", x.undo(), NONE);
        for (int i = 0; i < 4; i++) {
            Check.due("new: bring", x.bring(i), NONE);
            Check.due("new: as", x.as(i, 0), NONE);
            Check.due("new: lay", x.lay(i), MISSING);
        }
        Check.due("new: told(6)", x.told(6), 13);
    }

    private static void anew() {
        RoadBench x = plain(3, 0, 1);
        Check.due("anew(true)", x.anew(true), 3);
        Check.due("anew: posts", x.told(0), 0);
        Check.due("anew: roads", x.told(1), 0);
        Check.due("anew: turned", x.told(2), 1);
        Check.due("anew(false)", x.anew(false), 0);
        Check.due("anew: plain", x.told(2), 0);
        x.tell(7);
        x.keep(1);
        x.anew(true);
        Check.due("anew leaves what waits", x.told(4), 1);
        Check.due("anew leaves slots", x.as(1, 0), 0);
    }

    private static void post() {
        RoadBench x = new RoadBench();
        for (int i = 0; i < 8; i++) {
            Check.due("post()", x.post(), i);
        }
        Check.due("post() 9th", x.post(), FULL);
        Check.due("post: posts", x.told(0), 8);
        Check.due("post: a finding is no act", x.undo(), 7);
    }

    private static void road() {
        RoadBench x = plain(3);
        Check.due("road(0, 1)", x.road(0, 1), 0);
        Check.due("road(1, 0)", x.road(1, 0), 1);
        Check.due("road: price", x.of(1, 2), 1);
        Check.due("road: strength", x.of(1, 3), 4);
        Check.due("road(0, 3)", x.road(0, 3), BEYOND);
        Check.due("road(-1, 0)", x.road(-1, 0), BEYOND);
        Check.due("road(LOW, HIGH)", x.road(LOW, HIGH), BEYOND);
        Check.due("road(3, 3): BEYOND ahead of SIZE", x.road(3, 3), BEYOND);
        Check.due("road(2, 2)", x.road(2, 2), SIZE);
        fill(x, 0, 2, 17);
        Check.due("road 20th", x.road(2, 1), 19);
        Check.due("road 21st", x.road(0, 1), FULL);
        Check.due("road: BEYOND ahead of FULL", x.road(0, 3), BEYOND);
        Check.due("road: SIZE ahead of FULL", x.road(1, 1), SIZE);
        Check.due("road: roads", x.told(1), 20);
        x.worth(19, false, 50);
        x.worth(19, true, 0);
        x.drop(19);
        x.road(0, 1);
        Check.due("road: price 1 again", x.of(19, 2), 1);
        Check.due("road: strength 4 again", x.of(19, 3), 4);
    }

    private static void worth() {
        RoadBench x = plain(2, 0, 1, 1, 0);
        Check.due("worth price", x.worth(1, false, 1000), 1);
        Check.due("worth price 0", x.worth(1, false, 0), 1000);
        Check.due("worth price same", x.worth(1, false, 0), 0);
        Check.due("worth strength", x.worth(1, true, 8), 4);
        Check.due("worth strength 0", x.worth(1, true, 0), 8);
        Check.due("worth: other road", x.of(0, 2), 1);
        Check.due("worth: other road", x.of(0, 3), 4);
        Check.due("worth: price stays", x.of(1, 2), 0);
        Check.due("worth: strength", x.of(1, 3), 0);
        Check.due("worth(2)", x.worth(2, false, 1), BEYOND);
        Check.due("worth(-1)", x.worth(-1, true, 1), BEYOND);
        Check.due("worth price 1001", x.worth(0, false, 1001), BEYOND);
        Check.due("worth price -1", x.worth(0, false, -1), BEYOND);
        Check.due("worth strength 9", x.worth(0, true, 9), BEYOND);
        Check.due("worth strength -1", x.worth(0, true, -1), BEYOND);
        Check.due("worth: findings change nothing", x.of(0, 2), 1);
        Check.due("worth: findings change nothing", x.of(0, 3), 4);
    }

    private static void drop() {
        RoadBench x = plain(3, 0, 1, 1, 2, 2, 0);
        x.worth(2, false, 9);
        x.worth(2, true, 7);
        Check.due("drop(3)", x.drop(3), BEYOND);
        Check.due("drop(-1)", x.drop(-1), BEYOND);
        Check.due("drop(1)", x.drop(1), 2);
        Check.due("drop: of(1, 0)", x.of(1, 0), 2);
        Check.due("drop: of(1, 1)", x.of(1, 1), 0);
        Check.due("drop: of(1, 2)", x.of(1, 2), 9);
        Check.due("drop: of(1, 3)", x.of(1, 3), 7);
        Check.due("drop: of(0, 1)", x.of(0, 1), 1);
        Check.due("drop(1) again", x.drop(1), 1);
        Check.due("drop(0)", x.drop(0), 0);
        Check.due("drop(0) of none", x.drop(0), BEYOND);
        RoadBench y = fill(plain(2), 0, 1, 20);
        Check.due("drop(19)", y.drop(19), 19);
    }

    private static void join() {
        RoadBench x = plain(5, 0, 1, 1, 3, 3, 1, 3, 4, 4, 3, 2, 3);
        x.worth(3, false, 8);
        x.worth(3, true, 2);
        Check.due("join(1, 3)", x.join(1, 3), 4);
        Check.due("join: net", x.told(1), 4);
        Check.holds("join: roads are " + look(x), look(x).equals("4 4 0 1 0,1,1,4 1,3,8,2 3,1,1,4 2,1,1,4 "));
        Check.due("join(3, 3)", x.join(3, 3), SIZE);
        Check.due("join(2, 1)", x.join(2, 1), SIZE);
        Check.due("join(0, 4)", x.join(0, 4), BEYOND);
        Check.due("join(4, 0): BEYOND ahead of SIZE", x.join(4, 0), BEYOND);
        Check.due("join(-1, 0)", x.join(-1, 0), BEYOND);
        Check.due("join: undo", x.undo(), 13);
        Check.holds("join is undone: " + look(x),
                look(x).equals("5 6 0 1 0,1,1,4 1,3,1,4 3,1,1,4 3,4,8,2 4,3,1,4 2,3,1,4 "));
        RoadBench y = plain(2, 0, 1, 1, 0);
        Check.due("join of two", y.join(0, 1), 1);
        Check.due("join of two: roads", y.told(1), 0);
    }

    private static void of() {
        RoadBench x = turned(3, 2, 1);
        x.worth(0, false, 12);
        x.worth(0, true, 5);
        Check.due("of 0", x.of(0, 0), 2);
        Check.due("of 1", x.of(0, 1), 1);
        Check.due("of 2", x.of(0, 2), 12);
        Check.due("of 3", x.of(0, 3), 5);
        Check.due("of 4", x.of(0, 4), BEYOND);
        Check.due("of -1", x.of(0, -1), BEYOND);
        Check.due("of road 1", x.of(1, 0), BEYOND);
        Check.due("of road -1", x.of(-1, 0), BEYOND);
        Check.due("of LOW, HIGH", x.of(LOW, HIGH), BEYOND);
    }

    private static void undo() {
        RoadBench x = plain(2);
        for (int i = 0; i < 40; i++) {
            x.worth(x.told(1) == 0 ? x.road(0, 1) : 0, false, i);
        }
        for (int i = 29; i >= 0; i--) {
            Check.due("undo()", x.undo(), i);
            Check.due("undo: price", x.of(0, 2), i + 9);
        }
        Check.due("undo() 31st", x.undo(), NONE);
        Check.due("undo: price stays", x.of(0, 2), 9);
        Check.due("undo: an act after it", x.road(1, 0), 1);
        Check.due("undo: of that", x.undo(), 0);
        Check.due("undo: road gone", x.told(1), 1);
    }

    private static void undoOfEachAct() {
        RoadBench x = plain(3, 0, 1, 1, 2, 2, 0);
        x.sheet(0, 8, 4);
        x.put(0, 1, 1);
        x.put(0, 3, 2);
        x.keep(2);
        x.road(0, 1);
        String before = look(x);
        int acts = 7;
        x.anew(true);
        undone(x, "anew", before, acts);
        x.post();
        undone(x, "post", before, acts);
        x.road(0, 2);
        undone(x, "road", before, acts);
        x.worth(1, true, 3);
        undone(x, "worth", before, acts);
        x.worth(1, true, 4);
        undone(x, "worth that changes nothing", before, acts);
        x.drop(1);
        undone(x, "drop", before, acts);
        x.join(0, 2);
        undone(x, "join", before, acts);
        x.lay(0);
        undone(x, "lay", before, acts);
        x.sheet(1, 8, 1);
        x.lay(1);
        undone(x, "lay of none", before, acts);
        x.take();
        undone(x, "take", before, acts);
        x.bring(2);
        undone(x, "bring", before, acts);
        x.keep(1);
        x.tell(1);
        x.would();
        x.put(0, 1, 2);
        x.copy(0, 0, 0, 1, 2);
        Check.due("undo: the rest is no such act", x.undo(), acts - 1);
        Check.due("undo leaves slots", x.as(1, 0), 4);
    }

    private static void undone(RoadBench x, String act, String before, int acts) {
        Check.due("undo() of " + act, x.undo(), acts);
        String after = look(x);
        Check.holds("undo of " + act + " brings " + before + " but it is " + after, after.equals(before));
    }

    private static void sheet() {
        RoadBench x = plain(8);
        Check.due("sheet 8", x.sheet(0, 8, 24), 24);
        Check.due("sheet 16", x.sheet(1, 16, 0), 0);
        Check.due("sheet 32", x.sheet(3, 32, 1), 1);
        Check.due("sheet(4)", x.sheet(4, 8, 1), BEYOND);
        Check.due("sheet(-1)", x.sheet(-1, 8, 1), BEYOND);
        for (int bits : new int[] {-8, -1, 1, 7, 9, 24, 31, 33, 64, LOW, HIGH}) {
            Check.due("sheet of " + bits + " bits", x.sheet(0, bits, 1), BEYOND);
        }
        Check.due("sheet: bits ahead of SIZE", x.sheet(0, 9, -1), BEYOND);
        Check.due("sheet: n -1", x.sheet(0, 8, -1), SIZE);
        Check.due("sheet: n LOW", x.sheet(0, 8, LOW), SIZE);
        Check.due("sheet: n 25", x.sheet(0, 8, 25), BEYOND);
        Check.due("sheet: n HIGH", x.sheet(0, 8, HIGH), BEYOND);
        Check.due("sheet: a finding leaves it", x.put(0, 23, 5), 0);
        Check.due("sheet 0 bits", x.sheet(0, 0, 24), 0);
        Check.due("sheet is MISSING", x.put(0, 0, 5), MISSING);
        Check.due("sheet 0 bits again", x.sheet(0, 0, 0), 0);
        x.sheet(0, 8, 2);
        x.put(0, 0, 3);
        x.sheet(0, 8, 2);
        x.put(0, 1, 1);
        x.lay(0);
        Check.due("sheet: all 0 again", x.of(0, 0), 0);
        Check.due("sheet is no act to undo", x.undo(), 8);
    }

    private static void put() {
        RoadBench x = plain(8);
        x.sheet(0, 8, 2);
        x.sheet(1, 16, 2);
        x.sheet(2, 32, 2);
        Check.due("put 8", x.put(0, 0, 256 + 3), 0);
        Check.due("put 8 below 0", x.put(0, 1, -256 + 4), 0);
        Check.due("put 16", x.put(1, 0, 65536 + 5), 0);
        Check.due("put 16 below 0", x.put(1, 1, -65536 + 6), 0);
        Check.due("put 32", x.put(2, 0, 7), 0);
        Check.due("lay 8", x.lay(0), 1);
        Check.due("lay 16", x.lay(1), 1);
        Check.due("lay 32", x.lay(2), 1);
        Check.holds("put: " + look(x), look(x).equals("8 3 0 0 3,4,1,4 5,6,1,4 7,0,1,4 "));
        x.put(1, 0, 256 + 5);
        Check.due("put 16 has more than 8", x.lay(1), BEYOND);
        x.put(2, 0, 65536 + 7);
        Check.due("put 32 has more than 16", x.lay(2), BEYOND);
        x.put(2, 0, -1);
        Check.due("put 32 below 0", x.lay(2), BEYOND);
        x.put(0, 0, -1);
        Check.due("put 8 -1", x.lay(0), BEYOND);
        Check.due("put(4)", x.put(4, 0, 0), BEYOND);
        Check.due("put(-1)", x.put(-1, 0, 0), BEYOND);
        Check.due("put(3) MISSING, ahead of no such number", x.put(3, -1, 0), MISSING);
        Check.due("put no such number", x.put(0, 2, 0), BEYOND);
        Check.due("put no such number", x.put(0, -1, 0), BEYOND);
    }

    private static void copy() {
        RoadBench x = plain(8);
        x.sheet(0, 8, 4);
        x.sheet(1, 8, 3);
        x.sheet(2, 16, 3);
        for (int i = 0; i < 4; i++) {
            x.put(0, i, i + 1);
        }
        Check.due("copy", x.copy(0, 1, 1, 0, 2), 2);
        Check.due("copy over itself", x.copy(0, 0, 0, 1, 3), 3);
        x.lay(0);
        x.lay(1);
        Check.due("copy over itself: 1 1 2 3", x.lay(0), SIZE);
        x.put(0, 0, 0);
        x.lay(0);
        Check.holds("copy: " + look(x), look(x).equals("8 3 0 0 2,3,1,4 0,1,1,4 2,3,1,4 "));
        Check.due("copy over itself back", x.copy(0, 1, 0, 0, 3), 3);
        x.lay(0);
        Check.due("copy over itself back: 1 2 3 3", x.lay(0), SIZE);
        Check.due("copy none", x.copy(0, 4, 1, 3, 0), 0);
        Check.due("copy(4, ..)", x.copy(4, 0, 1, 0, 1), BEYOND);
        Check.due("copy(.., -1, ..)", x.copy(0, 0, -1, 0, 1), BEYOND);
        Check.due("copy: BEYOND ahead of MISSING", x.copy(3, 0, 4, 0, 1), BEYOND);
        Check.due("copy from MISSING", x.copy(3, 0, 0, 0, 1), MISSING);
        Check.due("copy to MISSING", x.copy(0, 0, 3, 0, 1), MISSING);
        Check.due("copy: MISSING ahead of numbers", x.copy(0, -1, 3, -1, -1), MISSING);
        Check.due("copy KIND", x.copy(0, 0, 2, 0, 1), KIND);
        Check.due("copy: KIND ahead of numbers", x.copy(2, -1, 0, 99, 1), KIND);
        int[][] wrong = {{-1, 0, 1}, {0, -1, 1}, {0, 0, -1}, {2, 0, 3}, {0, 1, 3}, {0, 0, 4}, {5, 0, 0}, {0, 4, 0},
            {HIGH, 0, 1}, {0, HIGH, HIGH}, {HIGH, HIGH, HIGH}, {LOW, 0, 1}, {1, 1, HIGH}, {1, 1, LOW}};
        for (int[] w : wrong) {
            Check.due("copy(0, " + w[0] + ", 1, " + w[1] + ", " + w[2] + ")", x.copy(0, w[0], 1, w[1], w[2]), BEYOND);
        }
    }

    private static void lay() {
        RoadBench x = plain(3);
        x.sheet(0, 8, 5);
        x.put(0, 1, 1);
        x.put(0, 2, 2);
        x.put(0, 4, 99);
        Check.due("lay, the last one left out", x.lay(0), 2);
        Check.holds("lay: " + look(x), look(x).equals("3 2 0 1 0,1,1,4 2,0,1,4 "));
        Check.due("lay(4)", x.lay(4), BEYOND);
        Check.due("lay(-1)", x.lay(-1), BEYOND);
        Check.due("lay(1)", x.lay(1), MISSING);
        x.sheet(1, 32, 1);
        Check.due("lay of one number", x.lay(1), 0);
        x.sheet(1, 32, 0);
        Check.due("lay of none", x.lay(1), 0);
        x.put(0, 1, 0);
        Check.due("lay SIZE", x.lay(0), SIZE);
        x.put(0, 3, 3);
        Check.due("lay: BEYOND ahead of SIZE", x.lay(0), BEYOND);
        x.put(0, 1, 3);
        x.put(0, 3, 2);
        Check.due("lay: BEYOND ahead of SIZE of a later pair", x.lay(0), BEYOND);
        x.put(0, 1, 1);
        x.put(0, 3, 0);
        fill(x, 0, 1, 17);
        Check.due("lay FULL", x.lay(0), FULL);
        Check.due("lay: roads", x.told(1), 19);
        x.put(0, 1, 0);
        Check.due("lay: SIZE ahead of FULL", x.lay(0), SIZE);
        x.put(0, 1, 1);
        x.drop(0);
        Check.due("lay up to 20", x.lay(0), 2);
        Check.due("lay: roads", x.told(1), 20);
    }

    private static void faultsOfTwo(String call, long beyond, long below, long ahead, long same) {
        Check.due(call + "(0, 3)", beyond, BEYOND);
        Check.due(call + "(-1, 0)", below, BEYOND);
        Check.due(call + "(3, 3): BEYOND ahead of SIZE", ahead, BEYOND);
        Check.due(call + "(2, 2)", same, SIZE);
    }

    private static void hold() {
        RoadBench x = plain(3, 0, 1, 1, 0, 1, 2);
        faultsOfTwo("hold", x.hold(0, 3), x.hold(-1, 0), x.hold(3, 3), x.hold(2, 2));
        Check.due("hold(0, 1)", x.hold(0, 1), 2);
        Check.due("hold(2, 0)", x.hold(2, 0), 1);
        RoadBench y = turned(4, 0, 1, 0, 1, 1, 2, 0, 2, 2, 3, 2, 3, 2, 3);
        Check.due("hold turned(0, 3)", y.hold(0, 3), 2);
        Check.due("hold turned(3, 0)", y.hold(3, 0), 0);
        Check.due("hold turned(2, 3)", y.hold(2, 3), 3);
        Check.due("hold of 20", fill(plain(2), 0, 1, 20).hold(1, 0), 20);
        Check.due("hold of none", plain(2).hold(1, 0), 0);
    }

    private static void cut() {
        RoadBench x = plain(3, 0, 1, 1, 2);
        faultsOfTwo("cut", x.cut(0, 3), x.cut(-1, 0), x.cut(3, 3), x.cut(2, 2));
        Check.due("cut(0, 2): the smallest", x.cut(0, 2), 1);
        Check.due("cut(2, 0)", x.cut(2, 0), 4);
        RoadBench y = plain(4, 0, 1, 0, 1, 1, 2, 2, 3, 2, 3);
        Check.due("cut(0, 3)", y.cut(0, 3), 3);
        Check.due("cut(3, 0)", y.cut(3, 0), 12);
        Check.due("cut(1, 0)", y.cut(1, 0), 14);
        RoadBench z = turned(3, 0, 1, 1, 2);
        Check.due("cut turned(2, 0)", z.cut(2, 0), 4);
        Check.due("cut turned(1, 0)", z.cut(1, 0), 6);
        Check.due("cut turned(0, 2)", z.cut(0, 2), 1);
        Check.due("cut of none", plain(3).cut(1, 0), 2);
    }

    private static void netHold() {
        Check.due("netHold of none", new RoadBench().netHold(), 0);
        Check.due("netHold of one", plain(1).netHold(), 0);
        Check.due("netHold of one, turned", turned(1).netHold(), 0);
        Check.due("netHold", plain(3, 0, 1, 1, 2, 2, 0).netHold(), 2);
        Check.due("netHold apart", plain(3, 0, 1, 1, 0).netHold(), 0);
        Check.due("netHold turned", turned(3, 0, 1, 1, 2, 2, 0, 0, 2).netHold(), 1);
        Check.due("netHold one way", turned(2, 0, 1).netHold(), 0);
        Check.due("netHold both ways", turned(2, 0, 1, 1, 0).netHold(), 1);
    }

    private static void least() {
        RoadBench x = plain(4, 0, 1, 1, 2, 2, 3, 3, 0);
        Check.due("least(-1)", x.least(-1), 6);
        int[] sets = {2, 4, 6, 8, 12, 14};
        for (int i = 0; i < 6; i++) {
            Check.due("least(" + i + ")", x.least(i), sets[i]);
        }
        Check.due("least(6)", x.least(6), NONE);
        Check.due("least(-2)", x.least(-2), NONE);
        Check.due("least(LOW)", x.least(LOW), NONE);
        Check.due("least(HIGH)", x.least(HIGH), NONE);
        RoadBench y = turned(2, 0, 1);
        Check.due("least turned(-1)", y.least(-1), 1);
        Check.due("least turned(0)", y.least(0), 2);
        Check.due("least turned(1)", y.least(1), NONE);
        Check.due("least of one (0)", plain(1).least(0), NONE);
        Check.due("least of one (-1): how many", plain(1).least(-1), 0);
        Check.due("least of one, turned", turned(1).least(0), NONE);
        Check.due("least of none", new RoadBench().least(0), NONE);
        Check.due("least of eight", plain(8).least(-1), 127);
        Check.due("least of eight", plain(8).least(126), 254);
        Check.due("least of eight, turned", turned(8).least(-1), 254);
        Check.due("least of eight, turned", turned(8).least(253), 254);
    }

    private static void apart() {
        RoadBench x = plain(3, 0, 1, 0, 1, 1, 2, 0, 2);
        faultsOfTwo("apart", x.apart(0, 3), x.apart(-1, 0), x.apart(3, 3), x.apart(2, 2));
        Check.due("apart(0, 1): roads each", x.apart(0, 1), 3);
        Check.due("apart(0, 2)", x.apart(0, 2), 2);
        RoadBench y = plain(5, 0, 2, 0, 2, 1, 2, 1, 2, 3, 2);
        Check.due("apart through one post", y.apart(0, 1), 1);
        Check.due("apart: hold is more", y.hold(0, 1), 2);
        Check.due("apart of none", y.apart(0, 4), 0);
        RoadBench z = turned(4, 0, 1, 1, 3, 0, 2, 3, 2, 0, 3, 3, 0);
        Check.due("apart turned(0, 3)", z.apart(0, 3), 2);
        Check.due("apart turned(3, 0)", z.apart(3, 0), 1);
        Check.due("apart turned(2, 0)", z.apart(2, 0), 0);
    }

    private static void heap() {
        RoadBench x = plain(5, 0, 1, 1, 2, 2, 0, 2, 3, 3, 4, 4, 3);
        Check.due("heap(4, 1)", x.heap(4, 1), 0);
        Check.due("heap(4, 2)", x.heap(4, 2), 3);
        Check.due("heap(2, 2)", x.heap(2, 2), 0);
        Check.due("heap(2, 3)", x.heap(2, 3), 2);
        Check.due("heap(3, HIGH)", x.heap(3, HIGH), 3);
        Check.due("heap(5, 1)", x.heap(5, 1), BEYOND);
        Check.due("heap(-1, 1)", x.heap(-1, 1), BEYOND);
        Check.due("heap(0, 0)", x.heap(0, 0), BEYOND);
        Check.due("heap(0, LOW)", x.heap(0, LOW), BEYOND);
        RoadBench y = turned(2, 0, 1);
        Check.due("heap turned", y.heap(0, 1), TURNED);
        Check.due("heap: BEYOND ahead of TURNED", y.heap(0, 0), BEYOND);
        // Posts 0 and 2 hold together by three ways though no three roads join two of their posts.
        RoadBench z = plain(5, 0, 1, 1, 2, 0, 3, 3, 2, 0, 4, 4, 2);
        Check.due("heap by ways through others", z.heap(2, 3), 0);
        Check.due("heap of the post between", z.heap(3, 3), 3);
    }

    private static void still() {
        RoadBench x = plain(3, 0, 1, 1, 2, 2, 0);
        Check.due("still roads 0", x.still(false, 0), 1);
        Check.due("still roads 1", x.still(false, 1), 1);
        Check.due("still roads 3", x.still(false, 3), 0);
        Check.due("still roads 8", x.still(false, 8), BEYOND);
        Check.due("still roads -1", x.still(false, -1), BEYOND);
        Check.due("still roads LOW", x.still(false, LOW), BEYOND);
        Check.due("still posts 1", x.still(true, 1), 1);
        Check.due("still posts 3", x.still(true, 3), 1);
        Check.due("still posts 7: none left", x.still(true, 7), 1);
        Check.due("still posts 8", x.still(true, 8), BEYOND);
        Check.due("still posts LOW", x.still(true, LOW), BEYOND);
        RoadBench y = turned(3, 0, 1, 1, 2, 2, 0, 0, 1, 1, 0);
        Check.due("still turned", y.still(false, 0), 1);
        Check.due("still turned without road 1", y.still(false, 2), 0);
        Check.due("still turned posts 4", y.still(true, 4), 1);
        Check.due("still turned posts 1", y.still(true, 1), 0);
        RoadBench none = new RoadBench();
        Check.due("still roads of no post", none.still(false, 0), 0);
        Check.due("still posts of no post", none.still(true, 0), 1);
        Check.due("still posts 1 of no post", none.still(true, 1), BEYOND);
        Check.due("still roads of one post", plain(1).still(false, 0), 1);
        Check.due("still posts of two apart", plain(2).still(true, 0), 0);
        RoadBench full = fill(plain(2), 0, 1, 20);
        Check.due("still without 19 roads", full.still(false, (1 << 19) - 1), 1);
        Check.due("still without 20 roads", full.still(false, (1 << 20) - 1), 0);
        Check.due("still bit 20", full.still(false, 1 << 20), BEYOND);
    }

    private static void bridges() {
        Check.due("bridges", plain(6, 0, 1, 1, 2, 2, 0, 2, 3, 4, 5).bridges(), 8 + 16);
        Check.due("bridges of two side by side", plain(2, 0, 1, 1, 0).bridges(), 0);
        Check.due("bridges of none", new RoadBench().bridges(), 0);
        Check.due("bridges turned", turned(2, 0, 1).bridges(), TURNED);
    }

    private static void joints() {
        Check.due("joints", plain(7, 0, 1, 1, 2, 2, 0, 2, 3, 4, 5, 5, 6).joints(), 4 + 32);
        Check.due("joints of two", plain(2, 0, 1, 1, 0).joints(), 0);
        Check.due("joints of two rings", plain(5, 0, 1, 1, 2, 2, 0, 2, 3, 3, 4, 4, 2).joints(), 4);
        Check.due("joints of none", new RoadBench().joints(), 0);
        Check.due("joints turned", turned(3, 0, 1, 1, 2).joints(), TURNED);
    }

    private static void block() {
        RoadBench x = plain(6, 2, 3, 0, 1, 3, 4, 1, 2, 4, 2, 2, 0, 4, 5, 5, 4);
        int[] blocks = {0, 1, 0, 1, 0, 1, 6, 6};
        for (int r = 0; r < blocks.length; r++) {
            Check.due("block(" + r + ")", x.block(r), blocks[r]);
        }
        Check.due("block(8)", x.block(8), BEYOND);
        Check.due("block(-1)", x.block(-1), BEYOND);
        Check.due("block of a bridge", plain(3, 0, 1, 1, 2).block(1), 1);
        RoadBench y = turned(2, 0, 1, 1, 0);
        Check.due("block turned", y.block(1), TURNED);
        Check.due("block: BEYOND ahead of TURNED", y.block(2), BEYOND);
    }

    private static void harder() {
        RoadBench x = plain(4);
        Check.due("harder(1) of four", x.harder(1), 3);
        Check.due("harder(2) of four", x.harder(2), 4);
        Check.due("harder(3) of four", x.harder(3), 6);
        Check.due("harder(8) of four", x.harder(8), 16);
        Check.due("harder(0)", x.harder(0), BEYOND);
        Check.due("harder(9)", x.harder(9), BEYOND);
        Check.due("harder of a star", plain(4, 0, 1, 0, 2, 0, 3).harder(2), 2);
        Check.due("harder(3) of three", plain(3).harder(3), 5);
        Check.due("harder of a ring", plain(5, 0, 1, 1, 2, 2, 3, 3, 4, 4, 0).harder(3), 3);
        Check.due("harder as it is", plain(2, 0, 1, 0, 1).harder(2), 0);
        Check.due("harder of one", plain(1).harder(1), NONE);
        Check.due("harder of none", new RoadBench().harder(8), NONE);
        Check.due("harder turned", turned(1).harder(1), TURNED);
        Check.due("harder: BEYOND ahead of TURNED", turned(1).harder(9), BEYOND);
        Check.due("harder: BEYOND ahead of NONE", plain(1).harder(0), BEYOND);
    }

    private static void best() {
        RoadBench x = plain(3, 0, 1, 1, 2, 2, 0, 0, 1);
        Check.due("best(1): least as a number", x.best(1), 3);
        x.worth(1, false, 5);
        Check.due("best(1): cheapest", x.best(1), 5);
        x.worth(0, false, 3);
        Check.due("best(1): cheapest", x.best(1), 12);
        Check.due("best(2)", x.best(2), 14);
        Check.due("best(3)", x.best(3), NONE);
        Check.due("best(0)", x.best(0), BEYOND);
        Check.due("best(9)", x.best(9), BEYOND);
        RoadBench zero = plain(2, 0, 1, 0, 1, 0, 1);
        zero.worth(2, false, 0);
        Check.due("best of price 0", zero.best(1), 4);
        zero.worth(1, false, 0);
        Check.due("best of prices 0", zero.best(1), 2);
        RoadBench y = turned(3, 0, 1, 1, 2, 2, 0, 1, 0, 2, 1);
        Check.due("best turned", y.best(1), 7);
        y.worth(2, false, 3);
        Check.due("best turned, cheaper both ways", y.best(1), 27);
        RoadBench full = fill(plain(2), 0, 1, 12);
        Check.due("best of 12 roads", full.best(8), 255);
        full.road(1, 0);
        Check.due("best of 13 roads", full.best(8), LONG);
        Check.due("best: BEYOND ahead of LONG", full.best(9), BEYOND);
        full.post();
        Check.due("best: LONG ahead of NONE", full.best(1), LONG);
        Check.due("best of one", plain(1).best(1), NONE);
        Check.due("best of none", new RoadBench().best(1), NONE);
    }

    private static void take() {
        RoadBench x = plain(3, 0, 1, 0, 1, 1, 2, 2, 0);
        Check.due("take", x.take(), 1);
        Check.holds("take: by numbers: " + look(x), look(x).equals("3 3 0 1 0,1,1,4 1,2,1,4 2,0,1,4 "));
        Check.due("take again", x.take(), 0);
        Check.due("take: undo", x.undo(), 8);
        Check.due("take: undo", x.undo(), 7);
        Check.due("take undone", x.told(1), 4);
        RoadBench y = plain(3, 0, 1, 0, 1);
        Check.due("take where the hold is 0", y.take(), 2);
        RoadBench z = turned(3, 0, 2, 0, 1, 1, 2, 2, 0, 1, 0);
        Check.due("take turned", z.take(), 2);
        Check.due("take turned: left", z.of(0, 1), 1);
        Check.due("take of none", new RoadBench().take(), 0);
    }

    private static void pack() {
        Check.due("pack of four with all six", plain(4, 0, 1, 0, 2, 0, 3, 1, 2, 1, 3, 2, 3).pack(), 2);
        Check.due("pack side by side", plain(2, 0, 1, 0, 1, 1, 0).pack(), 3);
        Check.due("pack of a ring", plain(3, 0, 1, 1, 2, 2, 0).pack(), 1);
        Check.due("pack with a bridge", plain(3, 0, 1, 0, 1, 0, 1, 1, 2).pack(), 1);
        Check.due("pack apart", plain(3, 0, 1, 0, 1).pack(), 0);
        Check.due("pack of one", plain(1).pack(), 0);
        Check.due("pack of none", new RoadBench().pack(), 0);
        Check.due("pack turned", turned(2, 0, 1).pack(), TURNED);
        // The parting that is tightest has parts of two posts each.
        Check.due("pack by parts", plain(4, 0, 1, 0, 1, 0, 1, 2, 3, 2, 3, 2, 3, 1, 2).pack(), 1);
    }

    private static void forests() {
        Check.due("forests of none", plain(2).forests(), 0);
        Check.due("forests of a tree", plain(3, 0, 1, 1, 2).forests(), 1);
        Check.due("forests of two side by side", plain(3, 0, 1, 1, 0).forests(), 2);
        Check.due("forests of a ring", plain(3, 0, 1, 1, 2, 2, 0).forests(), 2);
        Check.due("forests of a thick place",
                plain(6, 0, 1, 0, 1, 0, 1, 0, 1, 1, 2, 2, 3, 3, 4, 4, 5).forests(), 4);
        Check.due("forests of four with all six and one", plain(4, 0, 1, 0, 2, 0, 3, 1, 2, 1, 3, 2, 3, 0, 1).forests(),
                3);
        Check.due("forests turned", turned(2).forests(), TURNED);
    }

    private static void trees() {
        Check.due("trees of none", new RoadBench().trees(), 0);
        Check.due("trees of one", plain(1).trees(), 1);
        Check.due("trees of two apart", plain(2).trees(), 0);
        Check.due("trees side by side", plain(3, 0, 1, 0, 1, 2, 1, 1, 2, 2, 1).trees(), 6);
        Check.due("trees of four with all six", plain(4, 0, 1, 0, 2, 0, 3, 1, 2, 1, 3, 2, 3).trees(), 16);
        Check.due("trees apart", plain(4, 0, 1, 2, 3, 2, 3).trees(), 0);
        Check.due("trees turned", turned(1).trees(), TURNED);
    }

    private static void arms() {
        RoadBench x = turned(3, 0, 1, 0, 1, 1, 2, 0, 2, 2, 1);
        Check.due("arms(0)", x.arms(0), 2);
        Check.due("arms(1)", x.arms(1), 0);
        x.road(2, 0);
        Check.due("arms(1)", x.arms(1), 1);
        Check.due("arms(3)", x.arms(3), BEYOND);
        Check.due("arms(-1)", x.arms(-1), BEYOND);
        Check.due("arms of one", turned(1).arms(0), SIZE);
        Check.due("arms of one: BEYOND ahead of SIZE", turned(1).arms(1), BEYOND);
        Check.due("arms plain", plain(1).arms(0), KIND);
        Check.due("arms plain", plain(2, 0, 1).arms(0), KIND);
        Check.due("arms: BEYOND ahead of KIND", plain(1).arms(1), BEYOND);
    }

    private static void turns() {
        Check.due("turns", plain(3, 1, 0, 1, 2, 2, 0).turns(), 1);
        // From 0 by road 1 to 2, there by road 0 to 1, which closes with road 2 to 0.
        Check.due("turns by numbers", plain(3, 1, 2, 2, 0, 0, 1).turns(), 1 + 2 + 4);
        Check.due("turns from the least new post", plain(4, 3, 2, 1, 0).turns(), 1 + 2);
        Check.due("turns side by side", plain(2, 0, 1, 0, 1).turns(), 2);
        Check.due("turns comes back", plain(4, 0, 1, 1, 2, 3, 1, 0, 3).turns(), 4 + 8);
        Check.due("turns of no road", plain(2).turns(), NONE);
        Check.due("turns of none", new RoadBench().turns(), NONE);
        Check.due("turns turned, ahead of NONE", turned(2).turns(), TURNED);
        RoadBench full = fill(plain(2), 1, 0, 20);
        Check.due("turns of twenty", full.turns(), 1);
    }

    private static void strong() {
        Check.due("strong ring", plain(3, 0, 1, 1, 2, 2, 0).strong(), 1);
        Check.due("strong bridge", plain(2, 0, 1).strong(), 0);
        Check.due("strong side by side", plain(2, 0, 1, 0, 1).strong(), 1);
        Check.due("strong apart", plain(3, 0, 1, 1, 0).strong(), 0);
        Check.due("strong of one", plain(1).strong(), 1);
        Check.due("strong of none", new RoadBench().strong(), 0);
        Check.due("strong turned", turned(1).strong(), TURNED);
    }

    private static void chance() {
        Check.due("chance of none", new RoadBench().chance(), 0);
        Check.due("chance of none, turned", turned(0).chance(), 0);
        Check.due("chance of one", plain(1).chance(), 1);
        Check.due("chance of one, turned", turned(1).chance(), 1);
        Check.due("chance of two apart", plain(2).chance(), 0);
        RoadBench x = plain(3, 0, 1, 1, 2, 2, 0);
        x.worth(0, true, 1);
        x.worth(1, true, 3);
        x.worth(2, true, 7);
        Check.due("chance", x.chance(), 1 * 3 * 7 + 7 * 3 * 7 + 1 * 5 * 7 + 1 * 3 * 1);
        RoadBench y = turned(2, 0, 1, 0, 1, 1, 0);
        y.worth(2, true, 5);
        Check.due("chance turned", y.chance(), (64 - 16) * 5);
        RoadBench full = fill(plain(2), 0, 1, 20);
        Check.due("chance of 20 roads", full.chance(), (1L << 60) - (1L << 40));
        full.worth(3, true, 8);
        Check.due("chance of one that is sure", full.chance(), 1L << 60);
        RoadBench one = turned(2);
        fill(one, 0, 1, 6);
        fill(one, 1, 0, 6);
        long half = (1 << 18) - (1 << 12);
        Check.due("chance turned of 12 roads", one.chance(), half * half);
        one.road(0, 1);
        Check.due("chance turned of 13 roads", one.chance(), LONG);
    }

    private static void tell() {
        RoadBench x = new RoadBench();
        for (int i = 1; i <= 60; i++) {
            Check.due("tell", x.tell(i % 2 == 0 ? LOW : HIGH), i);
        }
        Check.due("tell 61st", x.tell(0), FULL);
        Check.due("tell: told(4)", x.told(4), 60);
    }

    private static void would() {
        RoadBench x = plain(3, 0, 1, 1, 2);
        Check.due("would of none told", x.would(), 1);
        tellAll(x, 2, 0);
        Check.due("would", x.would(), 2);
        Check.due("would: none wait then", x.told(4), 0);
        Check.due("would changes no net", x.told(1), 2);
        tellAll(x, 2, 0, 1);
        Check.due("would: one left over", x.would(), SIZE);
        Check.due("would: gone also then", x.told(4), 0);
        tellAll(x, 2, 3);
        Check.due("would: no post", x.would(), BEYOND);
        Check.due("would: gone also then", x.told(4), 0);
        tellAll(x, -1, 2);
        Check.due("would: no post", x.would(), BEYOND);
        tellAll(x, 0, 1, 2, 2);
        Check.due("would: the same", x.would(), BEYOND);
        tellAll(x, 9, 9, 9);
        Check.due("would: SIZE ahead of BEYOND", x.would(), SIZE);
        RoadBench y = fill(plain(2), 0, 1, 20);
        for (int i = 0; i < 30; i++) {
            tellAll(y, i % 2, 1 - i % 2);
        }
        Check.due("would: 50 roads", y.would(), 50);
        RoadBench z = turned(2, 0, 1);
        tellAll(z, 0, 1);
        Check.due("would turned", z.would(), 0);
        tellAll(z, 1, 0);
        Check.due("would turned", z.would(), 1);
        Check.due("would of one post", plain(1).would(), 0);
        Check.due("would of none", new RoadBench().would(), 0);
    }

    private static void way() {
        RoadBench x = plain(4, 0, 1, 2, 1, 2, 3, 3, 0);
        isWay(x, 1, 0, 3, 0, 1, 2);
        isWay(x, 1, 3, 0, 2, 1, 0);
        isWay(x, 1, 0, 3, 3);
        isWay(x, 0, 0, 3, 0, 1);
        isWay(x, 0, 0, 3);
        isWay(x, 0, 0, 3, 1, 2);
        isWay(x, 0, 0, 1, 3, 3, 0);
        isWay(x, 0, 0, 3, 4);
        isWay(x, 0, 0, 3, -1);
        isWay(x, 0, 0, 3, HIGH);
        isWay(x, 0, 0, 3, LOW, 3);
        isWay(x, 0, 0, 2, 0, 1, 2);
        isWay(x, 0, 0, 1, 0, 1, 2, 3, 0);
        tellAll(x, 0);
        Check.due("way(0, 4)", x.way(0, 4), BEYOND);
        Check.due("way: gone also then", x.told(4), 0);
        tellAll(x, 0);
        Check.due("way(-1, 0)", x.way(-1, 0), BEYOND);
        Check.due("way(4, 4): BEYOND ahead of SIZE", x.way(4, 4), BEYOND);
        tellAll(x, 0);
        Check.due("way(1, 1)", x.way(1, 1), SIZE);
        Check.due("way: gone also then", x.told(4), 0);
        RoadBench y = turned(3, 0, 1, 2, 1);
        isWay(y, 1, 0, 1, 0);
        isWay(y, 0, 0, 2, 0, 1);
        isWay(y, 0, 1, 0, 0);
        for (int i = 0; i < 60; i++) {
            y.tell(0);
        }
        Check.due("way of 60", y.way(0, 1), 0);
    }

    private static void isWay(RoadBench x, int due, int a, int b, int... roads) {
        tellAll(x, roads);
        Check.due("way(" + a + ", " + b + ") of " + roads.length + " roads", x.way(a, b), due);
        Check.due("way: none wait then", x.told(4), 0);
    }

    private static void keep() {
        Check.due("keep of none", new RoadBench().keep(0), 0);
        Check.due("keep of one", plain(1).keep(3), 1);
        Check.due("keep apart", plain(3, 0, 1, 1, 0).keep(0), 0);
        Check.due("keep whole", plain(2, 0, 1).keep(0), 1);
        Check.due("keep hard", plain(2, 0, 1, 0, 1).keep(0), 2);
        Check.due("keep harder", plain(2, 0, 1, 0, 1, 0, 1).keep(0), 2);
        Check.due("keep one way", turned(2, 0, 1, 1, 0).keep(0), 3);
        Check.due("keep one way of none", turned(0).keep(0), 3);
        RoadBench x = new RoadBench();
        Check.due("keep(4)", x.keep(4), BEYOND);
        Check.due("keep(-1)", x.keep(-1), BEYOND);
        Check.due("keep is no act to undo", x.undo(), NONE);
    }

    private static void bring() {
        RoadBench x = turned(3, 0, 1, 2, 1);
        x.worth(1, false, 30);
        x.worth(1, true, 6);
        String kept = look(x);
        x.keep(1);
        x.drop(0);
        x.post();
        Check.due("bring(1)", x.bring(1), 3);
        Check.holds("bring brings " + look(x), look(x).equals(kept));
        x.drop(0);
        x.worth(0, false, 7);
        Check.due("bring(1) again", x.bring(1), 3);
        Check.holds("the slot stays as kept: " + look(x), look(x).equals(kept));
        x.anew(false);
        x.keep(1);
        Check.due("bring a net without posts", x.bring(1), 0);
        Check.due("bring: plain", x.told(2), 0);
        Check.due("bring(4)", x.bring(4), BEYOND);
        Check.due("bring(-1)", x.bring(-1), BEYOND);
        Check.due("bring(0)", x.bring(0), NONE);
    }

    private static void as() {
        int[][] due = {{0, KIND, KIND, KIND}, {1, 1, KIND, KIND}, {2, 2, 2, KIND}, {3, KIND, KIND, 3}};
        RoadBench x = new RoadBench();
        x.keep(0);
        x.post();
        x.post();
        x.road(0, 1);
        x.keep(1);
        x.road(0, 1);
        x.keep(2);
        Check.due("as(3, 0)", x.as(3, 0), NONE);
        Check.due("as: BEYOND ahead of NONE", x.as(3, 4), BEYOND);
        x.anew(true);
        x.post();
        x.post();
        fill(x, 0, 1, 3);
        x.keep(3);
        x.anew(false);
        for (int slot = 0; slot < 4; slot++) {
            for (int kind = 0; kind < 4; kind++) {
                Check.due("as(" + slot + ", " + kind + ")", x.as(slot, kind), due[slot][kind]);
            }
        }
        Check.due("as(4, 0)", x.as(4, 0), BEYOND);
        Check.due("as(-1, 0)", x.as(-1, 0), BEYOND);
        Check.due("as(0, -1)", x.as(0, -1), BEYOND);
        Check.due("as(0, 4)", x.as(0, 4), BEYOND);
    }

    private static void told() {
        RoadBench x = turned(3, 0, 1, 1, 2);
        x.worth(0, false, 1000);
        x.tell(5);
        int[] due = {3, 2, 1, 0, 1, 1001, 0};
        for (int what = 0; what <= 6; what++) {
            Check.due("told(" + what + ")", x.told(what), due[what]);
        }
        x.road(2, 0);
        Check.due("told(3) hangs", x.told(3), 1);
        Check.due("told(7)", x.told(7), BEYOND);
        Check.due("told(-1)", x.told(-1), BEYOND);
        Check.due("told(6)", x.told(6), 2);
        Check.due("told(3) of one", plain(1).told(3), 1);
        Check.due("told(3) of none", plain(0).told(3), 0);
    }

    /** Of each act one finding, counted by told(6), whatever is undone or made anew. */
    private static void findingsAreCounted() {
        RoadBench x = new RoadBench();
        long[] plain = {x.road(0, 1), x.worth(0, false, 1), x.drop(0), x.join(0, 1), x.of(0, 0), x.undo(),
            x.sheet(4, 8, 0), x.put(0, 0, 0), x.copy(0, 0, 1, 0, 0), x.lay(0), x.hold(0, 1), x.cut(0, 1), x.least(0),
            x.apart(0, 1), x.heap(0, 1), x.still(true, 1), x.block(0), x.harder(1), x.best(1), x.arms(0), x.turns(),
            x.way(0, 1), x.keep(4), x.bring(0), x.as(0, 0), x.told(9)};
        for (long answer : plain) {
            Check.holds("a finding is below 0: " + answer, answer < 0);
        }
        Check.due("told(6) of a plain net", x.told(6), plain.length);
        x.anew(true);
        x.tell(1);
        long[] turned = {x.bridges(), x.joints(), x.pack(), x.forests(), x.trees(), x.strong(), x.turns(), x.would()};
        for (long answer : turned) {
            Check.holds("a finding is below 0: " + answer, answer < 0);
        }
        Check.due("told(6) of a turned net", x.told(6), plain.length + turned.length);
        x.undo();
        Check.due("told(6) is not undone", x.told(6), plain.length + turned.length);
        for (int i = 0; i < 8; i++) {
            x.post();
        }
        fill(x, 0, 1, 21);
        x.best(1);
        x.post();
        Check.due("told(6) of FULL and LONG", x.told(6), plain.length + turned.length + 3);
    }
}
