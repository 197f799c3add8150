/** Boundary cases of promises 34 to 40: each sentence of the document that names one, by itself. */
public final class BoundariesOfSlotsTest extends WithNets {
    private BoundariesOfSlotsTest() {
    }

    public static void main(String[] args) {
        // Promise 34.
        tellIsFullAtSixty();
        tellHasRoomAgain();
        tellOfAnyNumber();
        // Promise 35.
        wouldOfNone();
        wouldOfOneLeftOver();
        wouldOfNoPost();
        wouldOfTheSame();
        wouldFindingsInOrder();
        wouldOfThirtyPairs();
        wouldOfLessThanTwoPosts();
        wouldOnAFullNet();
        // Promise 36.
        wayOfNone();
        wayBeyond();
        wayOfTheSame();
        wayOfNoRoad();
        wayOfARoadThatIsGone();
        wayWithAPostTwice();
        wayThroughEightPosts();
        wayOfSixty();
        wayAsRoadsLead();
        // Promise 37.
        keepBeyond();
        keepOfEachKind();
        keepAgain();
        // Promise 38.
        bringBeyond();
        bringOfNone();
        bringOfANetWithoutPosts();
        bringOfAFullNet();
        // Promise 39.
        asBeyond();
        asOfNone();
        asOfAnotherKind();
        asFindingsInOrder();
        // Promise 40.
        toldBeyond();
        toldOfAFullNet();
        toldCountsFindings();
        Check.end();
    }

    private static RoadBench tellMany(RoadBench x, int v, int times) {
        for (int i = 0; i < times; i++) {
            x.tell(v);
        }
        return x;
    }

    private static void tellIsFullAtSixty() {
        refusedAhead("tell 61st", false, FULL, x -> x.tell(0), x -> tellMany(x, 1, 58));
        RoadBench x = tellMany(new RoadBench(), 0, 59);
        Check.due("tell 60th", x.tell(0), 60);
        Check.due("tell 61st", x.tell(0), FULL);
        Check.due("tell: sixty wait", x.told(4), 60);
    }

    private static void tellHasRoomAgain() {
        RoadBench x = tellMany(plain(2), 0, 60);
        Check.due("would of sixty of the same", x.would(), BEYOND);
        Check.due("tell after would()", x.tell(0), 1);
        tellMany(x, 0, 59);
        Check.due("way of sixty", x.way(0, 1), 0);
        Check.due("tell after way()", x.tell(0), 1);
        x.undo();
        x.anew(false);
        Check.due("tell after undo() and anew()", x.tell(0), 2);
    }

    private static void tellOfAnyNumber() {
        RoadBench x = new RoadBench();
        int count = 0;
        for (int v : new int[] {0, -1, LOW, HIGH, 8, 20}) {
            count++;
            Check.due("tell(" + v + ")", x.tell(v), count);
        }
        Check.due("tell: no finding", x.told(6), 0);
    }

    private static void wouldOfNone() {
        Check.due("would of none told", plain(2, 0, 1, 0, 1).would(), 2);
        Check.due("would of none told, turned", turned(2, 0, 1).would(), 0);
        RoadBench x = tellAll(plain(2), 0, 1);
        Check.due("would of one pair", x.would(), 1);
        Check.due("would again: none wait", x.would(), 0);
    }

    /** The numbers are gone, and nothing else changes. */
    private static void wouldIsRefused(String call, int finding, int... numbers) {
        RoadBench x = rich(false);
        RoadBench spared = rich(false);
        x.would();
        spared.would();
        tellAll(x, numbers);
        int findings = x.told(6);
        Check.due(call, x.would(), finding);
        Check.due(call + ": none wait", x.told(4), 0);
        Check.due(call + ": told(6)", x.told(6), findings + 1);
        Check.holds(call + ": nothing else changes", readOut(x).equals(readOut(spared)));
    }

    private static void wouldOfOneLeftOver() {
        wouldIsRefused("would of one", SIZE, 0);
        wouldIsRefused("would of three", SIZE, 0, 1, 2);
        RoadBench x = tellMany(plain(2), 0, 59);
        Check.due("would of 59", x.would(), SIZE);
        Check.due("would of 59: none wait", x.told(4), 0);
    }

    private static void wouldOfNoPost() {
        for (int v : new int[] {-1, 3, 8, LOW, HIGH}) {
            wouldIsRefused("would of 0 and " + v, BEYOND, 0, v);
            wouldIsRefused("would of " + v + " and 0", BEYOND, v, 0);
            wouldIsRefused("would of a later " + v, BEYOND, 0, 1, 1, 2, 2, v);
        }
        Check.due("would without posts", tellAll(new RoadBench(), 0, 1).would(), BEYOND);
        Check.due("would of one post", tellAll(plain(1), 0, 1).would(), BEYOND);
    }

    private static void wouldOfTheSame() {
        wouldIsRefused("would of the same", BEYOND, 1, 1);
        wouldIsRefused("would of a later pair of the same", BEYOND, 0, 1, 2, 2);
        Check.due("would: the same in two pairs is fine", tellAll(plain(3), 0, 1, 1, 2).would(), 1);
    }

    private static void wouldFindingsInOrder() {
        wouldIsRefused("would: SIZE ahead of BEYOND", SIZE, 9, 9, 9);
        wouldIsRefused("would: SIZE ahead of BEYOND", SIZE, 1, 1, 0);
    }

    private static void wouldOfThirtyPairs() {
        RoadBench x = plain(2);
        for (int i = 0; i < 30; i++) {
            tellAll(x, 0, 1);
        }
        Check.due("would of thirty pairs", x.would(), 30);
        Check.due("would changes no net", x.told(1), 0);
        RoadBench y = turned(2);
        for (int i = 0; i < 30; i++) {
            tellAll(y, i % 3 == 0 ? 0 : 1, i % 3 == 0 ? 1 : 0);
        }
        Check.due("would of ten and twenty, turned", y.would(), 10);
    }

    private static void wouldOfLessThanTwoPosts() {
        Check.due("would of none without posts", plain(0).would(), 0);
        Check.due("would of none of one post", plain(1).would(), 0);
        Check.due("would of none without posts, turned", turned(0).would(), 0);
    }

    private static void wouldOnAFullNet() {
        RoadBench x = fill(plain(2), 0, 1, 20);
        for (int i = 0; i < 30; i++) {
            tellAll(x, 1, 0);
        }
        Check.due("would of twenty and thirty: more than there is room for", x.would(), 50);
        RoadBench y = fill(plain(3), 0, 1, 20);
        Check.due("would of a post that was alone", tellAll(y, 2, 0).would(), 1);
    }

    private static void wayOfNone() {
        Check.due("way of none told", plain(2, 0, 1).way(0, 1), 0);
        Check.due("way of none told, turned", turned(2, 0, 1).way(1, 0), 0);
    }

    /** The numbers are gone, and nothing else changes. */
    private static void wayIsRefused(int a, int b, int finding) {
        String call = "way(" + a + ", " + b + ")";
        RoadBench x = rich(true);
        RoadBench spared = rich(true);
        spared.would();
        int findings = x.told(6);
        Check.due(call, x.way(a, b), finding);
        Check.due(call + ": none wait", x.told(4), 0);
        Check.due(call + ": told(6)", x.told(6), findings + 1);
        Check.holds(call + ": nothing else changes", readOut(x).equals(readOut(spared)));
    }

    private static void wayBeyond() {
        int[][] wrong = {{-1, 0}, {0, -1}, {3, 0}, {0, 3}, {3, 3}, {-1, -1}, {LOW, 1}, {1, HIGH}};
        for (int[] w : wrong) {
            wayIsRefused(w[0], w[1], BEYOND);
        }
        Check.due("way(0, 0) without posts", new RoadBench().way(0, 0), BEYOND);
    }

    private static void wayOfTheSame() {
        for (int post = 0; post < 3; post++) {
            wayIsRefused(post, post, SIZE);
        }
        Check.due("way(0, 0) of one post", plain(1).way(0, 0), SIZE);
    }

    private static void wayOfNoRoad() {
        for (int v : new int[] {-1, 2, 20, 32, LOW, HIGH}) {
            RoadBench x = plain(3, 0, 1, 1, 2);
            Check.due("way of " + v, tellAll(x, v).way(0, 1), 0);
            Check.due("way of 0 and " + v, tellAll(x, 0, v).way(0, 1), 0);
            Check.due("way of " + v + " and 1", tellAll(x, v, 1).way(0, 2), 0);
            Check.due("way: it is no finding", x.told(6), 0);
            Check.due("way: none wait", x.told(4), 0);
        }
    }

    private static void wayOfARoadThatIsGone() {
        RoadBench x = plain(3, 1, 2, 0, 1);
        x.drop(1);
        Check.due("way of a road that is gone", tellAll(x, 1).way(0, 1), 0);
        x.undo();
        Check.due("way of a road that is there again", tellAll(x, 1).way(0, 1), 1);
        x.anew(false);
        x.post();
        x.post();
        Check.due("way of a road of the net before", tellAll(x, 1).way(0, 1), 0);
    }

    private static void wayWithAPostTwice() {
        RoadBench x = plain(4, 0, 1, 1, 2, 2, 0, 2, 3, 0, 1);
        Check.due("way with no post twice", tellAll(x, 0, 1, 3).way(0, 3), 1);
        Check.due("way there and back", tellAll(x, 0, 0, 2).way(0, 2), 0);
        Check.due("way there and back by another", tellAll(x, 0, 4, 2).way(0, 2), 0);
        Check.due("way round and on", tellAll(x, 0, 1, 2, 4).way(0, 1), 0);
        Check.due("way through the goal", tellAll(x, 0, 1, 3, 3).way(0, 2), 0);
        Check.due("way past the goal", tellAll(x, 0, 1).way(0, 1), 0);
        Check.due("way short of the goal", tellAll(x, 0, 1).way(0, 3), 0);
        Check.due("way from elsewhere", tellAll(x, 1, 3).way(0, 3), 0);
        Check.due("way with a gap", tellAll(x, 0, 3).way(0, 3), 0);
    }

    private static void wayThroughEightPosts() {
        RoadBench x = plain(8);
        for (int post = 7; post > 0; post--) {
            x.road(post, post - 1);
        }
        Check.due("way through eight posts", tellAll(x, 6, 5, 4, 3, 2, 1, 0).way(0, 7), 1);
        Check.due("way back", tellAll(x, 0, 1, 2, 3, 4, 5, 6).way(7, 0), 1);
        x.road(7, 0);
        Check.due("way all the way round", tellAll(x, 6, 5, 4, 3, 2, 1, 0, 7).way(0, 7), 0);
    }

    private static void wayOfSixty() {
        RoadBench x = fill(plain(2), 0, 1, 20);
        for (int i = 0; i < 60; i++) {
            x.tell(i % 20);
        }
        Check.due("way of sixty", x.way(0, 1), 0);
        Check.due("way of the 20th road", tellAll(x, 19).way(1, 0), 1);
    }

    private static void wayAsRoadsLead() {
        RoadBench x = turned(3, 0, 1, 2, 1, 2, 0);
        Check.due("way as the road leads", tellAll(x, 0).way(0, 1), 1);
        Check.due("way against the road", tellAll(x, 0).way(1, 0), 0);
        Check.due("way of two", tellAll(x, 2, 0).way(2, 1), 1);
        Check.due("way with one against", tellAll(x, 0, 1).way(0, 2), 0);
    }

    private static void keepBeyond() {
        for (int slot : new int[] {-1, 4, LOW, HIGH}) {
            refused("keep(" + slot + ")", false, BEYOND, x -> x.keep(slot));
        }
    }

    private static void keepOfEachKind() {
        for (int slot = 0; slot < 4; slot++) {
            Check.due("keep without posts", plain(0).keep(slot), 0);
            Check.due("keep of one post", plain(1).keep(slot), 1);
            Check.due("keep of two without roads", plain(2).keep(slot), 0);
            Check.due("keep of a road", plain(2, 0, 1).keep(slot), 1);
            Check.due("keep of two roads", plain(2, 0, 1, 1, 0).keep(slot), 2);
            Check.due("keep of twenty", fill(plain(2), 0, 1, 20).keep(slot), 2);
            Check.due("keep of twenty and a post alone", fill(plain(3), 0, 1, 20).keep(slot), 0);
            Check.due("keep of nineteen and one", fill(fill(plain(3), 0, 1, 19), 1, 2, 1).keep(slot), 1);
            Check.due("keep without posts, turned", turned(0).keep(slot), 3);
            Check.due("keep of one post, turned", turned(1).keep(slot), 3);
            Check.due("keep of 2-hard, turned", turned(2, 0, 1, 0, 1, 1, 0, 1, 0).keep(slot), 3);
        }
    }

    private static void keepAgain() {
        RoadBench x = plain(2, 0, 1, 0, 1);
        Check.due("keep: HARD", x.keep(0), 2);
        x.drop(0);
        Check.due("the slot's kind is as it was kept", x.as(0, 2), 2);
        Check.due("keep again: WHOLE", x.keep(0), 1);
        Check.due("the slot's kind is new", x.as(0, 2), KIND);
        Check.due("the slot's net is new", x.as(0, 1), 1);
        x.anew(true);
        Check.due("keep again: ONE_WAY", x.keep(0), 3);
        Check.due("the slot's net is new", x.as(0, 3), 0);
        Check.due("the other slots are empty still", x.as(1, 0), NONE);
    }

    private static void bringBeyond() {
        for (int slot : new int[] {-1, 4, LOW, HIGH}) {
            refused("bring(" + slot + ")", false, BEYOND, x -> x.bring(slot));
        }
    }

    private static void bringOfNone() {
        refused("bring(0)", false, NONE, x -> x.bring(0));
        refused("bring(3)", true, NONE, x -> x.bring(3));
    }

    private static void bringOfANetWithoutPosts() {
        RoadBench x = new RoadBench();
        x.keep(3);
        x.anew(true);
        x.post();
        Check.due("bring without posts", x.bring(3), 0);
        looks("bring without posts", x, "0 0 0 0 ");
        Check.due("bring is undone", x.undo(), 2);
        looks("bring is undone", x, "1 0 1 1 ");
    }

    private static void bringOfAFullNet() {
        RoadBench x = fill(plain(8), 7, 6, 20);
        x.worth(19, false, 1000);
        x.worth(19, true, 0);
        x.keep(0);
        String kept = look(x);
        x.anew(true);
        Check.due("bring of a full net", x.bring(0), 8);
        looks("bring of a full net", x, kept);
        Check.due("bring: no more posts", x.post(), FULL);
        Check.due("bring: no more roads", x.road(0, 1), FULL);
        x.drop(0);
        x.join(0, 1);
        Check.due("bring again", x.bring(0), 8);
        looks("the slot's net is as it was kept", x, kept);
    }

    private static void asBeyond() {
        for (int wrong : new int[] {-1, 4, LOW, HIGH}) {
            refused("as(" + wrong + ", 0)", false, BEYOND, x -> x.as(wrong, 0));
            refused("as(2, " + wrong + ")", false, BEYOND, x -> x.as(2, wrong));
        }
    }

    private static void asOfNone() {
        for (int kind = 0; kind < 4; kind++) {
            int asked = kind;
            refused("as(0, " + kind + ")", false, NONE, x -> x.as(0, asked));
            refused("as(3, " + kind + ")", true, NONE, x -> x.as(3, asked));
        }
    }

    /** Each kind as each: the kind itself and those above it. */
    private static void asOfAnotherKind() {
        RoadBench[] nets = {plain(0), plain(1), fill(plain(2), 0, 1, 20), fill(turned(2), 0, 1, 20)};
        int[][] due = {{0, KIND, KIND, KIND}, {0, 0, KIND, KIND}, {20, 20, 20, KIND}, {20, KIND, KIND, 20}};
        for (int kept = 0; kept < 4; kept++) {
            Check.due("keep", nets[kept].keep(kept), kept);
            nets[kept].anew(false);
            for (int kind = 0; kind < 4; kind++) {
                Check.due("a net of kind " + kept + " as " + kind, nets[kept].as(kept, kind), due[kept][kind]);
            }
        }
        refused("as(1, 1): a ONE_WAY net", false, KIND, x -> x.as(1, 1));
        refused("as(2, 3): a HARD net", false, KIND, x -> x.as(2, 3));
    }

    private static void asFindingsInOrder() {
        RoadBench x = new RoadBench();
        Check.due("as: no such kind ahead of NONE", x.as(0, 4), BEYOND);
        Check.due("as: no such slot ahead of NONE", x.as(4, 0), BEYOND);
        Check.due("as: NONE ahead of KIND", x.as(0, 2), NONE);
    }

    private static void toldBeyond() {
        for (int what : new int[] {-1, 7, LOW, HIGH}) {
            refused("told(" + what + ")", false, BEYOND, x -> x.told(what));
        }
    }

    private static void toldOfAFullNet() {
        RoadBench x = fill(turned(8), 0, 7, 20);
        for (int road = 0; road < 20; road++) {
            x.worth(road, false, 1000);
        }
        tellMany(x, 0, 60);
        int[] due = {8, 20, 1, 0, 60, 20000, 0};
        for (int what = 0; what <= 6; what++) {
            Check.due("told(" + what + ") of a full net", x.told(what), due[what]);
        }
    }

    private static void toldCountsFindings() {
        RoadBench x = new RoadBench();
        Check.due("told(6) at first", x.told(6), 0);
        x.told(7);
        Check.due("told(6): told(7) is one", x.told(6), 1);
        Check.due("told(6) itself is none", x.told(6), 1);
        x.undo();
        Check.due("told(6): undo() of none is one", x.told(6), 2);
        x.post();
        x.still(true, 1);
        x.way(0, 0);
        Check.due("told(6): answers from 0 on are none", x.told(6), 3);
        x.least(-1);
        Check.due("told(6): least(-1) of one post is none", x.told(6), 3);
        x.anew(true);
        x.bring(0);
        x.undo();
        Check.due("told(6) goes on through anew() and undo()", x.told(6), 4);
        for (int i = 0; i < 400; i++) {
            x.drop(0);
        }
        Check.due("told(6) of many", x.told(6), 404);
    }
}
