/** Boundary cases of the terms and of promises 1 to 9: each sentence of the document that names one, by itself. */
public final class BoundariesOfNetsTest extends WithNets {
    private BoundariesOfNetsTest() {
    }

    public static void main(String[] args) {
        // Terms.
        aNetHasAtMostEightPosts();
        aNetHasAtMostTwentyRoads();
        severalRoadsBetweenTheSameTwo();
        aPriceIsZeroToThousand();
        aStrengthIsZeroToEight();
        withoutAPostItDoesNotHangTogether();
        onePostHangsTogether();
        aTurnedNetHangsTogetherAsItsRoadsLead();
        // Promise 1.
        aNewNetIsPlainWithoutPosts();
        aNewObjectHasEmptySlots();
        aNewObjectHasMissingSheets();
        aNewObjectHasNothingElse();
        // Promise 2.
        anewOfAnEmptyNet();
        anewOfAFullNet();
        anewLeavesTheRest();
        // Promise 3.
        postIsFullAtEight();
        postHasRoomAgain();
        // Promise 4.
        roadBeyond();
        roadOfTheSame();
        roadIsFullAtTwenty();
        roadFindingsInOrder();
        roadHasRoomAgain();
        // Promise 5.
        worthOfNoRoad();
        worthOutOfBounds();
        worthAtItsBounds();
        // Promise 6.
        dropBeyond();
        dropOfTheFirstTheLastAndTheOnly();
        dropOfAllTwenty();
        // Promise 7.
        joinBeyond();
        joinOfWhatIsNotBelow();
        joinDownToOnePost();
        joinOfTheLastTwoOfEight();
        joinOfTwentyRoadsBetween();
        // Promise 8.
        ofBeyond();
        // Promise 9.
        undoOfNone();
        undoKeepsThirty();
        undoOfRefusedActs();
        undoOfActsThatChangedNothing();
        undoGoesRoundAndRound();
        undoAtTheLimits();
        undoOfWhatIsNoSuchAct();
        Check.end();
    }

    private static void aNetHasAtMostEightPosts() {
        for (boolean kind : new boolean[] {false, true}) {
            RoadBench x = net(kind, 9);
            Check.due("nine posts", x.told(0), 8);
            Check.due("a road of the last of eight", x.road(0, 7), 0);
            Check.due("a road of a ninth", x.road(0, 8), BEYOND);
        }
    }

    private static void aNetHasAtMostTwentyRoads() {
        for (boolean kind : new boolean[] {false, true}) {
            RoadBench x = fill(net(kind, 2), 0, 1, 21);
            Check.due("21 roads", x.told(1), 20);
            Check.due("the last of twenty", x.of(19, 1), 1);
            Check.due("the 21st", x.of(20, 1), BEYOND);
        }
    }

    private static void severalRoadsBetweenTheSameTwo() {
        RoadBench x = plain(2, 0, 1, 0, 1, 1, 0);
        looks("several roads", x, "2 3 0 1 0,1,1,4 0,1,1,4 1,0,1,4 ");
    }

    private static void aPriceIsZeroToThousand() {
        RoadBench x = plain(2, 0, 1);
        Check.due("price 1000", x.worth(0, false, 1000), 1);
        Check.due("price 1001", x.worth(0, false, 1001), BEYOND);
        Check.due("price 0", x.worth(0, false, 0), 1000);
        Check.due("price -1", x.worth(0, false, -1), BEYOND);
        Check.due("the price is", x.of(0, 2), 0);
    }

    private static void aStrengthIsZeroToEight() {
        RoadBench x = plain(2, 0, 1);
        Check.due("strength 8", x.worth(0, true, 8), 4);
        Check.due("strength 9", x.worth(0, true, 9), BEYOND);
        Check.due("strength 0", x.worth(0, true, 0), 8);
        Check.due("strength -1", x.worth(0, true, -1), BEYOND);
        Check.due("the strength is", x.of(0, 3), 0);
    }

    private static void withoutAPostItDoesNotHangTogether() {
        Check.due("no post", new RoadBench().told(3), 0);
        Check.due("no post, turned", turned(0).told(3), 0);
        RoadBench x = plain(1);
        x.undo();
        Check.due("no post again", x.told(3), 0);
    }

    private static void onePostHangsTogether() {
        Check.due("one post", plain(1).told(3), 1);
        Check.due("one post, turned", turned(1).told(3), 1);
        Check.due("two posts without a road", plain(2).told(3), 0);
        Check.due("two posts without a road, turned", turned(2).told(3), 0);
    }

    private static void aTurnedNetHangsTogetherAsItsRoadsLead() {
        Check.due("one road, plain", plain(2, 1, 0).told(3), 1);
        Check.due("one road, turned", turned(2, 1, 0).told(3), 0);
        Check.due("both ways, turned", turned(2, 1, 0, 0, 1).told(3), 1);
        Check.due("into one and not out", turned(3, 0, 1, 1, 0, 1, 2, 0, 2).told(3), 0);
        Check.due("out of one and not in", turned(3, 0, 1, 1, 0, 2, 1, 2, 0).told(3), 0);
    }

    private static void aNewNetIsPlainWithoutPosts() {
        looks("new", new RoadBench(), "0 0 0 0 ");
        Check.due("new: its first post", new RoadBench().post(), 0);
        Check.due("new: no finding TURNED", new RoadBench().bridges(), 0);
    }

    private static void aNewObjectHasEmptySlots() {
        RoadBench x = new RoadBench();
        for (int slot = 0; slot < 4; slot++) {
            Check.due("new: bring(" + slot + ")", x.bring(slot), NONE);
            for (int kind = 0; kind < 4; kind++) {
                Check.due("new: as(" + slot + ", " + kind + ")", x.as(slot, kind), NONE);
            }
        }
    }

    private static void aNewObjectHasMissingSheets() {
        RoadBench x = new RoadBench();
        for (int s = 0; s < 4; s++) {
            Check.due("new: put(" + s + ")", x.put(s, 0, 0), MISSING);
            Check.due("new: lay(" + s + ")", x.lay(s), MISSING);
            Check.due("new: copy(" + s + ")", x.copy(s, 0, s, 0, 0), MISSING);
        }
    }

    private static void aNewObjectHasNothingElse() {
        RoadBench x = new RoadBench();
        Check.due("new: waiting", x.told(4), 0);
        Check.due("new: prices", x.told(5), 0);
        Check.due("new: findings", x.told(6), 0);
        Check.due("new: undo()", x.undo(), NONE);
        // Each object has a state of its own.
        RoadBench other = rich(true);
        Check.due("another object", new RoadBench().told(0) + new RoadBench().told(4), 0);
        Check.due("another object's slots", new RoadBench().bring(1), NONE);
        Check.due("the first one", other.told(0), 3);
    }

    private static void anewOfAnEmptyNet() {
        RoadBench x = new RoadBench();
        Check.due("anew(false) of none", x.anew(false), 0);
        Check.due("anew(true) of none", x.anew(true), 0);
        Check.due("anew(true) of none again", x.anew(true), 0);
        Check.due("anew: turned", x.told(2), 1);
        Check.due("anew of an empty net is an act too", x.undo(), 2);
        Check.due("anew: still turned", x.told(2), 1);
        Check.due("anew: undone", x.undo(), 1);
        Check.due("anew: plain again", x.told(2), 0);
    }

    private static void anewOfAFullNet() {
        RoadBench x = fill(plain(8), 6, 7, 20);
        Check.due("anew(true) of eight posts", x.anew(true), 8);
        looks("anew", x, "0 0 1 0 ");
        Check.due("anew: the first post again", x.post(), 0);
        Check.due("anew: no road is left of the net before", x.of(0, 0), BEYOND);
        Check.due("anew(false) of one post", x.anew(false), 1);
    }

    private static void anewLeavesTheRest() {
        RoadBench x = rich(false);
        int findings = x.told(6);
        x.anew(true);
        Check.due("anew: waiting", x.told(4), 2);
        Check.due("anew: slot 2", x.as(2, 0), 4);
        Check.due("anew: sheet 1", x.put(1, 1, 0), 0);
        Check.due("anew: findings", x.told(6), findings);
    }

    private static void postIsFullAtEight() {
        Ahead eight = x -> {
            while (x.told(0) < 8) {
                x.post();
            }
        };
        refusedAhead("post() of eight", false, FULL, x -> x.post(), eight);
        refusedAhead("post() of eight, turned", true, FULL, x -> x.post(), eight);
        Check.due("the eighth post", plain(7).post(), 7);
    }

    private static void postHasRoomAgain() {
        RoadBench x = plain(8);
        x.undo();
        Check.due("post() after undo()", x.post(), 7);
        x.join(0, 7);
        Check.due("post() after join()", x.post(), 7);
        Check.due("post() of eight again", x.post(), FULL);
        x.anew(false);
        Check.due("post() after anew()", x.post(), 0);
    }

    private static void roadBeyond() {
        int[][] wrong = {{-1, 0}, {0, -1}, {3, 0}, {0, 3}, {LOW, 1}, {1, LOW}, {HIGH, 1}, {1, HIGH}, {8, 0}, {32, 1}};
        for (int[] w : wrong) {
            refused("road(" + w[0] + ", " + w[1] + ")", false, BEYOND, x -> x.road(w[0], w[1]));
        }
        refused("road(0, 3), turned", true, BEYOND, x -> x.road(0, 3));
        Check.due("road(0, 0) without posts", new RoadBench().road(0, 0), BEYOND);
        Check.due("road(0, 1) of one post", plain(1).road(0, 1), BEYOND);
    }

    private static void roadOfTheSame() {
        refused("road(0, 0)", false, SIZE, x -> x.road(0, 0));
        refused("road(2, 2), turned", true, SIZE, x -> x.road(2, 2));
        Check.due("road(7, 7) of eight", plain(8).road(7, 7), SIZE);
    }

    private static void roadIsFullAtTwenty() {
        refusedAhead("road 21st", false, FULL, x -> x.road(0, 1), x -> fill(x, 1, 2, 16));
        refusedAhead("road 21st, turned", true, FULL, x -> x.road(2, 1), x -> fill(x, 1, 2, 16));
        Check.due("the 20th road", fill(plain(2), 0, 1, 19).road(1, 0), 19);
    }

    private static void roadFindingsInOrder() {
        RoadBench x = fill(plain(2), 0, 1, 20);
        Check.due("road: BEYOND ahead of SIZE and FULL", x.road(2, 2), BEYOND);
        Check.due("road: SIZE ahead of FULL", x.road(1, 1), SIZE);
        Check.due("road: FULL", x.road(0, 1), FULL);
    }

    private static void roadHasRoomAgain() {
        RoadBench x = fill(plain(2), 0, 1, 20);
        x.drop(0);
        Check.due("road() after drop()", x.road(1, 0), 19);
        x.undo();
        Check.due("road() after undo()", x.road(1, 0), 19);
        Check.due("road() of twenty again", x.road(1, 0), FULL);
    }

    private static void worthOfNoRoad() {
        for (int road : new int[] {-1, 4, 20, 32, LOW, HIGH}) {
            refused("worth(" + road + ", false, 1)", false, BEYOND, x -> x.worth(road, false, 1));
            refused("worth(" + road + ", true, 1)", true, BEYOND, x -> x.worth(road, true, 1));
        }
        Check.due("worth(0) without roads", plain(2).worth(0, false, 1), BEYOND);
    }

    private static void worthOutOfBounds() {
        for (int v : new int[] {-1, 1001, LOW, HIGH}) {
            refused("worth(0, false, " + v + ")", false, BEYOND, x -> x.worth(0, false, v));
        }
        for (int v : new int[] {-1, 9, 1000, LOW, HIGH}) {
            refused("worth(0, true, " + v + ")", false, BEYOND, x -> x.worth(0, true, v));
        }
    }

    private static void worthAtItsBounds() {
        RoadBench x = fill(plain(2), 0, 1, 20);
        for (int road : new int[] {0, 19}) {
            Check.due("price 1000", x.worth(road, false, 1000), 1);
            Check.due("price 0", x.worth(road, false, 0), 1000);
            Check.due("price 0 again", x.worth(road, false, 0), 0);
            Check.due("strength 0", x.worth(road, true, 0), 4);
            Check.due("strength 8", x.worth(road, true, 8), 0);
            Check.due("strength 8 again", x.worth(road, true, 8), 8);
        }
        Check.due("worth(20)", x.worth(20, false, 1), BEYOND);
    }

    private static void dropBeyond() {
        for (int road : new int[] {-1, 4, 20, 32, LOW, HIGH}) {
            refused("drop(" + road + ")", false, BEYOND, x -> x.drop(road));
        }
        Check.due("drop(0) without roads", plain(2).drop(0), BEYOND);
    }

    private static void dropOfTheFirstTheLastAndTheOnly() {
        RoadBench x = plain(3, 0, 1, 1, 2, 2, 0);
        x.worth(1, false, 7);
        x.worth(1, true, 3);
        Check.due("drop of the first", x.drop(0), 2);
        looks("drop of the first", x, "3 2 0 1 1,2,7,3 2,0,1,4 ");
        Check.due("drop of the last", x.drop(1), 1);
        looks("drop of the last", x, "3 1 0 0 1,2,7,3 ");
        Check.due("drop of the only one", x.drop(0), 0);
        looks("drop of the only one", x, "3 0 0 0 ");
        Check.due("drop of none", x.drop(0), BEYOND);
    }

    private static void dropOfAllTwenty() {
        RoadBench x = fill(plain(2), 0, 1, 20);
        for (int left = 19; left >= 0; left--) {
            Check.due("drop(" + left + ")", x.drop(left), left);
            Check.due("drop: the next is none", x.drop(left), BEYOND);
        }
    }

    private static void joinBeyond() {
        int[][] wrong = {{-1, 0}, {0, -1}, {3, 0}, {0, 3}, {3, 3}, {LOW, 1}, {1, HIGH}, {HIGH, LOW}, {-1, -1}};
        for (int[] w : wrong) {
            refused("join(" + w[0] + ", " + w[1] + ")", false, BEYOND, x -> x.join(w[0], w[1]));
        }
        Check.due("join(0, 0) without posts", new RoadBench().join(0, 0), BEYOND);
    }

    private static void joinOfWhatIsNotBelow() {
        refused("join(0, 0)", false, SIZE, x -> x.join(0, 0));
        refused("join(2, 2)", true, SIZE, x -> x.join(2, 2));
        refused("join(1, 0)", false, SIZE, x -> x.join(1, 0));
        refused("join(2, 0)", true, SIZE, x -> x.join(2, 0));
        Check.due("join(0, 0) of one post", plain(1).join(0, 0), SIZE);
    }

    private static void joinDownToOnePost() {
        RoadBench x = plain(4, 0, 1, 1, 2, 2, 3, 3, 0);
        Check.due("join(2, 3)", x.join(2, 3), 3);
        looks("join(2, 3)", x, "3 3 0 1 0,1,1,4 1,2,1,4 2,0,1,4 ");
        Check.due("join(0, 1)", x.join(0, 1), 2);
        looks("join(0, 1)", x, "2 2 0 1 0,1,1,4 1,0,1,4 ");
        Check.due("join(0, 1) of two", x.join(0, 1), 1);
        looks("join(0, 1) of two", x, "1 0 0 1 ");
        Check.due("join(0, 1) of one", x.join(0, 1), BEYOND);
    }

    private static void joinOfTheLastTwoOfEight() {
        RoadBench x = turned(8, 7, 0, 6, 7, 5, 7, 6, 1);
        Check.due("join(6, 7)", x.join(6, 7), 7);
        looks("join(6, 7)", x, "7 3 1 0 6,0,1,4 5,6,1,4 6,1,1,4 ");
        Check.due("join(0, 6)", x.join(0, 6), 6);
        looks("join(0, 6)", x, "6 2 1 0 5,0,1,4 0,1,1,4 ");
    }

    private static void joinOfTwentyRoadsBetween() {
        RoadBench x = fill(fill(plain(3), 1, 2, 10), 2, 1, 10);
        Check.due("join of twenty roads", x.join(1, 2), 2);
        looks("join of twenty roads", x, "2 0 0 0 ");
        RoadBench y = fill(plain(3), 0, 2, 20);
        Check.due("join where no road goes", y.join(0, 1), 2);
        Check.due("join where no road goes", y.told(1), 20);
        Check.due("join where no road goes", y.of(19, 1), 1);
    }

    private static void ofBeyond() {
        for (int road : new int[] {-1, 4, 20, 32, LOW, HIGH}) {
            refused("of(" + road + ", 0)", false, BEYOND, x -> x.of(road, 0));
        }
        for (int what : new int[] {-1, 4, LOW, HIGH}) {
            refused("of(0, " + what + ")", true, BEYOND, x -> x.of(0, what));
        }
        Check.due("of(0, 0) without roads", plain(2).of(0, 0), BEYOND);
        RoadBench full = fill(plain(8), 6, 7, 20);
        Check.due("of(19, 0)", full.of(19, 0), 6);
        Check.due("of(19, 1)", full.of(19, 1), 7);
        Check.due("of(20, 0)", full.of(20, 0), BEYOND);
    }

    private static void undoOfNone() {
        RoadBench x = new RoadBench();
        Check.due("undo() of none", x.undo(), NONE);
        x.post();
        Check.due("undo() of one", x.undo(), 0);
        Check.due("undo() of none again", x.undo(), NONE);
        Check.due("undo() of none changes nothing", x.told(0), 0);
        Check.due("an undo() is not undone", x.post() + x.undo(), 0);
    }

    /** After this many acts, as many as are kept can be undone; then the net stays. */
    private static void undoKeepsThirty() {
        for (int acts : new int[] {28, 29, 30, 31, 59, 60, 61, 90}) {
            RoadBench x = new RoadBench();
            for (int i = 0; i < acts; i++) {
                x.anew(i % 3 == 0);
            }
            int kept = Math.min(acts, 30);
            for (int left = kept - 1; left >= 0; left--) {
                Check.due("undo() of " + acts + " acts", x.undo(), left);
                int done = acts - kept + left;
                Check.due("undo() of " + acts + " acts: turned", x.told(2), done > 0 && (done - 1) % 3 == 0 ? 1 : 0);
            }
            Check.due("undo() of " + acts + " acts, one more", x.undo(), NONE);
        }
    }

    private static void undoOfRefusedActs() {
        RoadBench x = fill(plain(2), 0, 1, 2);
        long[] refusedActs = {x.road(0, 0), x.worth(0, true, 9), x.drop(2), x.join(1, 0), x.lay(0), x.bring(0)};
        for (long answer : refusedActs) {
            Check.holds("refused: " + answer, answer < 0);
        }
        Check.due("undo() undoes the latest that was done", x.undo(), 3);
        Check.due("undo(): one road less", x.told(1), 1);
    }

    private static void undoOfActsThatChangedNothing() {
        RoadBench x = sheetOf(plain(1), 0, 8);
        x.keep(0);
        x.take();
        x.lay(0);
        x.bring(0);
        Check.due("undo() of bring", x.undo(), 3);
        Check.due("undo() of lay", x.undo(), 2);
        Check.due("undo() of take", x.undo(), 1);
        Check.due("undo() of post", x.undo(), 0);
        RoadBench y = plain(2, 0, 1);
        y.worth(0, false, 1);
        y.worth(0, true, 4);
        Check.due("undo() of worth of the same", y.undo(), 4);
        Check.due("undo() of worth of the same", y.undo(), 3);
        Check.due("undo(): the road is there still", y.told(1), 1);
    }

    private static void undoGoesRoundAndRound() {
        RoadBench x = plain(2, 0, 1);
        for (int i = 0; i < 100; i++) {
            x.worth(0, false, 2 * i);
            x.worth(0, false, 2 * i + 1);
            Check.due("undo(), round and round", x.undo(), Math.min(i + 4, 29));
            Check.due("undo(): the price", x.of(0, 2), 2 * i);
        }
        for (int left = 28; left >= 0; left--) {
            Check.due("undo(), and back", x.undo(), left);
            Check.due("undo(), and back: the price", x.of(0, 2), 2 * (left + 70));
        }
        Check.due("undo(), and no further", x.undo(), NONE);
    }

    /** Each act that a full net does not refuse, and its undo(). */
    private static void undoAtTheLimits() {
        RoadBench x = fill(plain(8), 6, 7, 19);
        x.road(0, 7);
        x.worth(19, false, 1000);
        x.worth(19, true, 0);
        x.keep(0);
        x.sheet(0, 8, 0);
        String full = look(x);
        undone("drop(19)", x, x.drop(19), 19);
        undone("join(6, 7)", x, x.join(6, 7), 7);
        undone("take()", x, x.take(), 20);
        undone("anew(true)", x, x.anew(true), 8);
        undone("worth() of the strength", x, x.worth(19, true, 8), 0);
        undone("worth() of the price", x, x.worth(19, false, 0), 1000);
        undone("lay(0)", x, x.lay(0), 0);
        undone("bring(0)", x, x.bring(0), 8);
        looks("acts and undo() of a full net", x, full);
    }

    private static void undone(String act, RoadBench x, int got, int due) {
        Check.due(act + " of a full net", got, due);
        Check.due("undo() of " + act, x.undo(), 29);
        Check.due("undo() of " + act + ": posts", x.told(0), 8);
        Check.due("undo() of " + act + ": roads", x.told(1), 20);
        Check.due("undo() of " + act + ": prices", x.told(5), 1019);
        Check.due("undo() of " + act + ": the last strength", x.of(19, 3), 0);
    }

    private static void undoOfWhatIsNoSuchAct() {
        RoadBench x = rich(false);
        int acts = 0;
        RoadBench same = rich(false);
        while (same.undo() >= 0) {
            acts++;
        }
        String before = look(x);
        x.keep(3);
        x.sheet(2, 8, 2);
        x.put(2, 0, 1);
        x.copy(2, 0, 2, 1, 1);
        x.tell(0);
        x.would();
        x.way(0, 1);
        x.post();
        Check.due("undo() of the post alone", x.undo(), acts);
        looks("undo() of the post alone", x, before);
        Check.due("undo(): the slot stays", x.as(3, 0), 4);
        Check.due("undo(): the sheet stays", x.put(2, 1, 1), 0);
        Check.due("undo(): what waits stays gone", x.told(4), 0);
    }
}
