/** Boundary cases of promises 14 to 23: each sentence of the document that names one, by itself. */
public final class BoundariesOfHoldsTest extends WithNets {
    private BoundariesOfHoldsTest() {
    }

    public static void main(String[] args) {
        // Promises 14, 15 and 18.
        twoPostsBeyond();
        twoPostsTheSame();
        holdOfNoWay();
        holdOfTwenty();
        holdAsRoadsLead();
        cutWithinAllSuch();
        cutOfEight();
        apartOfNoWay();
        apartOfTwenty();
        apartOfOneByTheWayAndOthersStraight();
        // Promise 16.
        netHoldOfLessThanTwo();
        netHoldBothWays();
        netHoldOfTwenty();
        // Promise 17.
        leastOfLessThanTwo();
        leastBeyondTheLast();
        leastBelowMinusOne();
        leastNotEmptyNotAll();
        leastOfAPlainNetWithoutPostZero();
        // Promise 19.
        heapBeyond();
        heapTurned();
        heapOfOnePost();
        heapOfMoreThanThereIs();
        // Promise 20.
        stillOfABitOfNone();
        stillOfAtMostOnePostLeft();
        stillWithoutAnyRoad();
        stillOfNoPost();
        stillTakesRoadsWithTheirPosts();
        // Promises 21, 22 and 23.
        turnedIsRefused();
        bridgesOfNone();
        bridgesOfWhatNeverHungTogether();
        jointsOfLessThanThree();
        jointsOfWhatNeverHungTogether();
        blockBeyond();
        blockOfTwoSideBySide();
        blockOfABridge();
        blocksThatShareAPost();
        Check.end();
    }

    /** hold(), cut() and apart() have the same findings. */
    private static void eachOfTwo(int a, int b, boolean turned, int finding) {
        String posts = "(" + a + ", " + b + ")";
        refused("hold" + posts, turned, finding, x -> x.hold(a, b));
        refused("cut" + posts, turned, finding, x -> x.cut(a, b));
        refused("apart" + posts, turned, finding, x -> x.apart(a, b));
    }

    private static void twoPostsBeyond() {
        int[][] wrong = {{-1, 0}, {0, -1}, {3, 0}, {0, 3}, {3, 3}, {-1, -1}, {LOW, 1}, {1, LOW}, {HIGH, 1}, {1, HIGH},
            {8, 0}, {0, 32}};
        for (int[] w : wrong) {
            eachOfTwo(w[0], w[1], w[0] > w[1], BEYOND);
        }
        Check.due("hold(0, 0) without posts", new RoadBench().hold(0, 0), BEYOND);
        Check.due("cut(0, 0) without posts", new RoadBench().cut(0, 0), BEYOND);
        Check.due("apart(0, 0) without posts", new RoadBench().apart(0, 0), BEYOND);
    }

    private static void twoPostsTheSame() {
        for (int post = 0; post < 3; post++) {
            eachOfTwo(post, post, false, SIZE);
            eachOfTwo(post, post, true, SIZE);
        }
        Check.due("hold(0, 0) of one", plain(1).hold(0, 0), SIZE);
        Check.due("cut(0, 0) of one", plain(1).cut(0, 0), SIZE);
        Check.due("apart(0, 0) of one", plain(1).apart(0, 0), SIZE);
        Check.due("hold(7, 7) of eight", plain(8).hold(7, 7), SIZE);
    }

    private static void holdOfNoWay() {
        Check.due("hold without roads", plain(2).hold(0, 1), 0);
        Check.due("hold without roads", plain(8).hold(7, 0), 0);
        Check.due("hold of two apart", plain(4, 0, 1, 2, 3).hold(1, 2), 0);
        Check.due("hold against the road", turned(2, 0, 1).hold(1, 0), 0);
    }

    private static void holdOfTwenty() {
        Check.due("hold of twenty", fill(plain(2), 1, 0, 20).hold(0, 1), 20);
        Check.due("hold of twenty, turned", fill(turned(2), 1, 0, 20).hold(1, 0), 20);
        Check.due("hold of twenty, against", fill(turned(2), 1, 0, 20).hold(0, 1), 0);
        RoadBench x = fill(fill(plain(8), 6, 2, 10), 2, 7, 10);
        Check.due("hold by ten and ten", x.hold(7, 6), 10);
    }

    private static void holdAsRoadsLead() {
        RoadBench x = turned(3, 0, 1, 0, 1, 1, 2, 2, 0);
        Check.due("hold(0, 1)", x.hold(0, 1), 2);
        Check.due("hold(1, 0)", x.hold(1, 0), 1);
        Check.due("hold(0, 2)", x.hold(0, 2), 1);
    }

    private static void cutWithinAllSuch() {
        RoadBench row = plain(4, 0, 1, 1, 2, 2, 3);
        Check.due("cut(0, 3): the first post alone", row.cut(0, 3), 1);
        Check.due("cut(3, 0): the last post alone", row.cut(3, 0), 8);
        Check.due("cut(1, 2)", row.cut(1, 2), 3);
        Check.due("cut without roads", plain(3).cut(2, 0), 4);
        RoadBench one = turned(3, 0, 1, 1, 2);
        Check.due("cut against the roads: all from there on", one.cut(1, 0), 6);
        Check.due("cut against the roads", one.cut(2, 1), 4);
    }

    private static void cutOfEight() {
        RoadBench x = plain(8);
        for (int post = 0; post < 7; post++) {
            fill(x, post, post + 1, post == 0 ? 1 : 2);
        }
        Check.due("cut(7, 0): all but one", x.cut(7, 0), 254);
        Check.due("cut(0, 7): one alone", x.cut(0, 7), 1);
        RoadBench y = plain(8);
        for (int post = 0; post < 7; post++) {
            fill(y, post, post + 1, post == 6 ? 1 : 2);
        }
        Check.due("cut(0, 7): all but the last", y.cut(0, 7), 127);
        Check.due("cut(7, 0): the last alone", y.cut(7, 0), 128);
    }

    private static void apartOfNoWay() {
        Check.due("apart without roads", plain(2).apart(0, 1), 0);
        Check.due("apart of two apart", plain(4, 0, 1, 2, 3).apart(0, 3), 0);
        Check.due("apart against the road", turned(2, 0, 1).apart(1, 0), 0);
        Check.due("apart against the last road", turned(3, 0, 1, 2, 1).apart(0, 2), 0);
    }

    private static void apartOfTwenty() {
        Check.due("apart of twenty", fill(plain(2), 0, 1, 20).apart(1, 0), 20);
        Check.due("apart of twenty, turned", fill(turned(2), 0, 1, 20).apart(0, 1), 20);
        Check.due("apart through one post", fill(fill(plain(3), 0, 1, 10), 1, 2, 10).apart(0, 2), 1);
        RoadBench x = plain(8);
        for (int post = 1; post < 7; post++) {
            roads(x, 0, post, post, 7);
        }
        Check.due("apart through six posts", x.apart(0, 7), 6);
        fill(x, 7, 0, 8);
        Check.due("apart through six posts and straight", x.apart(0, 7), 14);
    }

    private static void apartOfOneByTheWayAndOthersStraight() {
        RoadBench x = plain(3, 0, 1, 0, 1, 0, 2, 0, 2, 2, 1, 2, 1);
        Check.due("apart: straight each, by a post once", x.apart(0, 1), 3);
        RoadBench y = turned(3, 0, 1, 1, 0, 0, 2, 2, 1);
        Check.due("apart: a road back is no way", y.apart(0, 1), 2);
    }

    private static void netHoldOfLessThanTwo() {
        Check.due("netHold of none", plain(0).netHold(), 0);
        Check.due("netHold of one", plain(1).netHold(), 0);
        Check.due("netHold of none, turned", turned(0).netHold(), 0);
        Check.due("netHold of one, turned", turned(1).netHold(), 0);
        RoadBench x = fill(plain(2), 0, 1, 20);
        x.join(0, 1);
        Check.due("netHold of two that are one", x.netHold(), 0);
    }

    private static void netHoldBothWays() {
        Check.due("netHold of a road", plain(2, 0, 1).netHold(), 1);
        Check.due("netHold of a road one way", turned(2, 0, 1).netHold(), 0);
        Check.due("netHold of a road the other way", turned(2, 1, 0).netHold(), 0);
        Check.due("netHold of more one way", turned(2, 0, 1, 0, 1, 1, 0).netHold(), 1);
        Check.due("netHold of a post alone", plain(3, 0, 1, 0, 1).netHold(), 0);
    }

    private static void netHoldOfTwenty() {
        Check.due("netHold of twenty", fill(plain(2), 0, 1, 20).netHold(), 20);
        Check.due("netHold of ten each way", fill(fill(turned(2), 0, 1, 10), 1, 0, 10).netHold(), 10);
        Check.due("netHold of nineteen and one", fill(fill(plain(3), 0, 1, 19), 1, 2, 1).netHold(), 1);
    }

    private static void leastOfLessThanTwo() {
        for (boolean kind : new boolean[] {false, true}) {
            for (int posts = 0; posts < 2; posts++) {
                RoadBench x = net(kind, posts);
                Check.due("least(0) of " + posts, x.least(0), NONE);
                Check.due("least(1) of " + posts, x.least(1), NONE);
                Check.due("least(-1) of " + posts + ": how many", x.least(-1), 0);
                Check.due("least of " + posts + ": findings", x.told(6), 2);
            }
        }
    }

    private static void leastBeyondTheLast() {
        for (int i : new int[] {3, 4, HIGH}) {
            refused("least(" + i + ")", false, NONE, x -> x.least(i));
        }
        RoadBench x = plain(2, 0, 1);
        Check.due("least(-1) of two", x.least(-1), 1);
        Check.due("least(0) of two", x.least(0), 2);
        Check.due("least(1) of two", x.least(1), NONE);
        RoadBench y = turned(2);
        Check.due("least(-1) of two, turned", y.least(-1), 2);
        Check.due("least(0) of two, turned", y.least(0), 1);
        Check.due("least(1) of two, turned", y.least(1), 2);
        Check.due("least(2) of two, turned", y.least(2), NONE);
    }

    private static void leastBelowMinusOne() {
        for (int i : new int[] {-2, -3, LOW}) {
            refused("least(" + i + ")", false, NONE, x -> x.least(i));
            refused("least(" + i + "), turned", true, NONE, x -> x.least(i));
        }
    }

    private static void leastNotEmptyNotAll() {
        RoadBench x = turned(8);
        Check.due("least(-1) of eight, turned", x.least(-1), 254);
        Check.due("least(0) of eight, turned", x.least(0), 1);
        Check.due("least(253) of eight, turned", x.least(253), 254);
        Check.due("least(254) of eight, turned", x.least(254), NONE);
    }

    private static void leastOfAPlainNetWithoutPostZero() {
        RoadBench x = plain(8);
        Check.due("least(-1) of eight", x.least(-1), 127);
        Check.due("least(0) of eight", x.least(0), 2);
        Check.due("least(126) of eight", x.least(126), 254);
        Check.due("least(127) of eight", x.least(127), NONE);
        RoadBench star = plain(3, 0, 1, 0, 1, 0, 2);
        Check.due("least(-1): one alone", star.least(-1), 1);
        Check.due("least(0): one alone", star.least(0), 4);
        RoadBench first = plain(3, 0, 1, 1, 2, 1, 2);
        Check.due("least(0): all but post 0", first.least(0), 6);
    }

    private static void heapBeyond() {
        for (int post : new int[] {-1, 3, 8, LOW, HIGH}) {
            refused("heap(" + post + ", 1)", false, BEYOND, x -> x.heap(post, 1));
        }
        for (int k : new int[] {0, -1, LOW}) {
            refused("heap(0, " + k + ")", false, BEYOND, x -> x.heap(0, k));
        }
        Check.due("heap(0, 1) without posts", new RoadBench().heap(0, 1), BEYOND);
    }

    private static void heapTurned() {
        refused("heap, turned", true, TURNED, x -> x.heap(0, 1));
        refused("heap: no such post ahead of TURNED", true, BEYOND, x -> x.heap(3, 1));
        refused("heap: k below 1 ahead of TURNED", true, BEYOND, x -> x.heap(0, 0));
    }

    private static void heapOfOnePost() {
        Check.due("heap of one", plain(1).heap(0, 1), 0);
        Check.due("heap of one", plain(1).heap(0, HIGH), 0);
        Check.due("heap of a post alone", plain(8).heap(7, 1), 7);
        Check.due("heap of the first", plain(2, 0, 1).heap(0, 1), 0);
        Check.due("heap of the last", plain(2, 0, 1).heap(1, 1), 0);
    }

    private static void heapOfMoreThanThereIs() {
        RoadBench x = fill(plain(3), 1, 2, 20);
        Check.due("heap(2, 20)", x.heap(2, 20), 1);
        Check.due("heap(2, 21): it itself", x.heap(2, 21), 2);
        Check.due("heap(2, HIGH): it itself", x.heap(2, HIGH), 2);
        Check.due("heap(0, 1): it itself", x.heap(0, 1), 0);
    }

    private static void stillOfABitOfNone() {
        for (int set : new int[] {16, 17, 32, 1 << 20, 1 << 30, LOW, HIGH, -1, -16}) {
            refused("still(false, " + set + ")", false, BEYOND, x -> x.still(false, set));
        }
        for (int set : new int[] {8, 15, 256, 1 << 30, LOW, HIGH, -1, -8}) {
            refused("still(true, " + set + ")", true, BEYOND, x -> x.still(true, set));
        }
        Check.due("still(false, 1) without roads", plain(2).still(false, 1), BEYOND);
        Check.due("still(true, 1) without posts", new RoadBench().still(true, 1), BEYOND);
        Check.due("still(true, 256) of eight", plain(8).still(true, 256), BEYOND);
        Check.due("still(false, 1 << 20) of twenty", fill(plain(2), 0, 1, 20).still(false, 1 << 20), BEYOND);
    }

    private static void stillOfAtMostOnePostLeft() {
        for (boolean kind : new boolean[] {false, true}) {
            RoadBench x = net(kind, 8);
            Check.due("still: one left", x.still(true, 254), 1);
            Check.due("still: another left", x.still(true, 127), 1);
            Check.due("still: none left", x.still(true, 255), 1);
            Check.due("still: two left", x.still(true, 252), 0);
        }
        Check.due("still: one of one left", plain(1).still(true, 0), 1);
        Check.due("still: none of one left", plain(1).still(true, 1), 1);
        Check.due("still: none of none left", plain(0).still(true, 0), 1);
    }

    private static void stillWithoutAnyRoad() {
        RoadBench x = fill(plain(2), 0, 1, 20);
        int all = (1 << 20) - 1;
        Check.due("still without all roads", x.still(false, all), 0);
        Check.due("still with the last road", x.still(false, all >> 1), 1);
        Check.due("still with the first road", x.still(false, all - 1), 1);
        Check.due("still with all roads", x.still(false, 0), 1);
        RoadBench y = turned(2, 0, 1, 1, 0);
        Check.due("still without one way", y.still(false, 1), 0);
        Check.due("still without the other", y.still(false, 2), 0);
    }

    private static void stillOfNoPost() {
        Check.due("still without a post", plain(0).still(false, 0), 0);
        Check.due("still without a post, turned", turned(0).still(false, 0), 0);
        Check.due("still of one post", plain(1).still(false, 0), 1);
        Check.due("still of one post, turned", turned(1).still(false, 0), 1);
        Check.due("still of two posts", plain(2).still(false, 0), 0);
    }

    private static void stillTakesRoadsWithTheirPosts() {
        RoadBench x = plain(3, 0, 1, 1, 2);
        Check.due("still without the end", x.still(true, 1), 1);
        Check.due("still without the middle", x.still(true, 2), 0);
        Check.due("still without none", x.still(true, 0), 1);
        Check.due("still: the net stays", x.told(1), 2);
    }

    private static void turnedIsRefused() {
        refused("bridges, turned", true, TURNED, x -> x.bridges());
        refused("joints, turned", true, TURNED, x -> x.joints());
        refused("block, turned", true, TURNED, x -> x.block(0));
        Check.due("bridges of none, turned", turned(0).bridges(), TURNED);
        Check.due("joints of none, turned", turned(0).joints(), TURNED);
    }

    private static void bridgesOfNone() {
        Check.due("bridges without posts", plain(0).bridges(), 0);
        Check.due("bridges of one", plain(1).bridges(), 0);
        Check.due("bridges without roads", plain(8).bridges(), 0);
        Check.due("bridges of one road", plain(2, 1, 0).bridges(), 1);
        Check.due("bridges of two roads", plain(2, 1, 0, 1, 0).bridges(), 0);
        Check.due("bridges: the 20th road", fill(fill(plain(3), 0, 1, 19), 1, 2, 1).bridges(), 1 << 19);
    }

    private static void bridgesOfWhatNeverHungTogether() {
        Check.due("bridges of two apart", plain(5, 0, 1, 3, 2).bridges(), 3);
        Check.due("bridges of seven roads", plain(8, 0, 1, 1, 2, 2, 3, 3, 4, 4, 5, 5, 6, 6, 7).bridges(), 127);
    }

    private static void jointsOfLessThanThree() {
        Check.due("joints without posts", plain(0).joints(), 0);
        Check.due("joints of one", plain(1).joints(), 0);
        Check.due("joints of two", plain(2, 0, 1).joints(), 0);
        Check.due("joints of three", plain(3, 0, 1, 1, 2).joints(), 2);
        Check.due("joints of a ring of three", plain(3, 0, 1, 1, 2, 2, 0).joints(), 0);
        Check.due("joints of eight in a row", plain(8, 0, 1, 1, 2, 2, 3, 3, 4, 4, 5, 5, 6, 6, 7).joints(), 126);
    }

    private static void jointsOfWhatNeverHungTogether() {
        Check.due("joints of two apart", plain(4, 0, 1, 2, 3).joints(), 0);
        Check.due("joints of two rows apart", plain(6, 0, 1, 1, 2, 3, 5, 5, 4).joints(), 2 + 32);
        Check.due("joints: posts alone", plain(8).joints(), 0);
    }

    private static void blockBeyond() {
        for (int road : new int[] {-1, 4, 20, 32, LOW, HIGH}) {
            refused("block(" + road + ")", false, BEYOND, x -> x.block(road));
            refused("block(" + road + "): BEYOND ahead of TURNED", true, BEYOND, x -> x.block(road));
        }
        Check.due("block(0) without roads", plain(2).block(0), BEYOND);
    }

    private static void blockOfTwoSideBySide() {
        Check.due("block of two", plain(2, 0, 1, 1, 0).block(1), 0);
        Check.due("block of twenty", fill(plain(2), 0, 1, 20).block(19), 0);
    }

    private static void blockOfABridge() {
        RoadBench x = plain(3, 0, 1, 1, 2);
        Check.due("block of a bridge", x.block(0), 0);
        Check.due("block of another", x.block(1), 1);
        RoadBench full = fill(fill(plain(3), 0, 1, 19), 1, 2, 1);
        Check.due("block of the 20th", full.block(19), 19);
        Check.due("block of the 19th", full.block(18), 0);
    }

    private static void blocksThatShareAPost() {
        RoadBench x = plain(5, 0, 1, 2, 3, 1, 2, 3, 4, 2, 0, 4, 2);
        int[] due = {0, 1, 0, 1, 0, 1};
        for (int road = 0; road < 6; road++) {
            Check.due("block(" + road + ") of two rings at one post", x.block(road), due[road]);
        }
    }
}
