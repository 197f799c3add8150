/** Boundary cases of promises 24 to 33: each sentence of the document that names one, by itself. */
public final class BoundariesOfTreesTest extends WithNets {
    private static final int[] NOT_ONE_TO_EIGHT = {0, 9, -1, LOW, HIGH};

    private BoundariesOfTreesTest() {
    }

    public static void main(String[] args) {
        // Promise 24.
        harderBeyond();
        harderTurned();
        harderOfLessThanTwo();
        harderOfTwo();
        harderOfWhatIsHard();
        harderAsksForMoreThanThereIsRoom();
        // Promise 25.
        bestBeyond();
        bestOfMoreThanTwelve();
        bestOfNone();
        bestFindingsInOrder();
        bestOfAllRoads();
        bestOfPricesAtTheirBounds();
        // Promise 26.
        takeOfNone();
        takeOfHoldZero();
        takeOfTwenty();
        takeGoesByNumbers();
        // Promise 27.
        packTurned();
        packOfZero();
        packOfTwo();
        // Promise 28.
        forestsTurned();
        forestsWithoutRoads();
        forestsOfTwo();
        // Promise 29.
        treesTurned();
        treesOfOneAndNone();
        treesOfTwo();
        // Promise 30.
        armsBeyond();
        armsPlain();
        armsOfOne();
        armsOfTwo();
        // Promise 31.
        turnsTurned();
        turnsWithoutRoads();
        turnsOfTheLastRoad();
        // Promise 32.
        strongTurned();
        strongOfLessThanTwo();
        strongOfTwo();
        // Promise 33.
        chanceOfMoreThanTwelveTurned();
        chanceOfLessThanTwo();
        chanceOfSureAndOfNever();
        chanceAtTheTop();
        Check.end();
    }

    private static RoadBench row(int posts) {
        RoadBench x = plain(posts);
        for (int post = 1; post < posts; post++) {
            x.road(post - 1, post);
        }
        return x;
    }

    private static void harderBeyond() {
        for (int k : NOT_ONE_TO_EIGHT) {
            refused("harder(" + k + ")", false, BEYOND, x -> x.harder(k));
            refused("harder(" + k + "): BEYOND ahead of TURNED", true, BEYOND, x -> x.harder(k));
            Check.due("harder(" + k + "): BEYOND ahead of NONE", plain(1).harder(k), BEYOND);
        }
    }

    private static void harderTurned() {
        refused("harder(1), turned", true, TURNED, x -> x.harder(1));
        refused("harder(8), turned", true, TURNED, x -> x.harder(8));
        Check.due("harder: TURNED ahead of NONE", turned(0).harder(1), TURNED);
    }

    private static void harderOfLessThanTwo() {
        for (int k = 1; k <= 8; k++) {
            Check.due("harder(" + k + ") without posts", plain(0).harder(k), NONE);
            Check.due("harder(" + k + ") of one", plain(1).harder(k), NONE);
        }
    }

    private static void harderOfTwo() {
        for (int k = 1; k <= 8; k++) {
            Check.due("harder(" + k + ") of two", plain(2).harder(k), k);
            Check.due("harder(" + k + ") of two with a road", plain(2, 0, 1).harder(k), k - 1);
        }
    }

    private static void harderOfWhatIsHard() {
        RoadBench x = fill(plain(2), 0, 1, 8);
        Check.due("harder(8) of eight", x.harder(8), 0);
        x.drop(7);
        Check.due("harder(8) of seven", x.harder(8), 1);
        Check.due("harder(7) of seven", x.harder(7), 0);
        Check.due("harder(1) of a row", row(8).harder(1), 0);
        Check.due("harder(2) of a row", row(8).harder(2), 1);
    }

    private static void harderAsksForMoreThanThereIsRoom() {
        Check.due("harder(8) of eight posts without roads", plain(8).harder(8), 32);
        RoadBench x = fill(plain(3), 0, 1, 20);
        Check.due("harder(1) of twenty roads", x.harder(1), 1);
        Check.due("harder(8) of twenty roads", x.harder(8), 8);
        Check.due("harder changes nothing", x.told(1), 20);
    }

    private static void bestBeyond() {
        for (int k : NOT_ONE_TO_EIGHT) {
            refused("best(" + k + ")", false, BEYOND, x -> x.best(k));
            refused("best(" + k + "), turned", true, BEYOND, x -> x.best(k));
        }
    }

    private static void bestOfMoreThanTwelve() {
        refusedAhead("best(1) of 13", false, LONG, x -> x.best(1), x -> fill(x, 0, 1, 9));
        refusedAhead("best(1) of 20", true, LONG, x -> x.best(1), x -> fill(x, 0, 1, 16));
        RoadBench x = fill(plain(2), 0, 1, 12);
        Check.due("best(1) of 12", x.best(1), 1);
        Check.due("best(8) of 12", x.best(8), 255);
        x.road(0, 1);
        Check.due("best(1) of 13", x.best(1), LONG);
        x.drop(0);
        Check.due("best(1) of 12 again", x.best(1), 1);
    }

    private static void bestOfNone() {
        refused("best(3)", false, NONE, x -> x.best(3));
        refused("best(2), turned", true, NONE, x -> x.best(2));
        for (int k = 1; k <= 8; k++) {
            Check.due("best(" + k + ") without posts", plain(0).best(k), NONE);
            Check.due("best(" + k + ") of one", plain(1).best(k), NONE);
            Check.due("best(" + k + ") of one, turned", turned(1).best(k), NONE);
            Check.due("best(" + k + ") of two without roads", plain(2).best(k), NONE);
            Check.due("best(" + k + ") of one less", fill(plain(2), 0, 1, k - 1).best(k), NONE);
        }
        Check.due("best(1) of one way", turned(2, 0, 1).best(1), NONE);
    }

    private static void bestFindingsInOrder() {
        RoadBench x = fill(plain(3), 0, 1, 13);
        Check.due("best: BEYOND ahead of LONG", x.best(9), BEYOND);
        Check.due("best: LONG ahead of NONE", x.best(1), LONG);
        Check.due("best: BEYOND ahead of NONE", plain(0).best(0), BEYOND);
    }

    private static void bestOfAllRoads() {
        for (int k = 1; k <= 8; k++) {
            Check.due("best(" + k + ") of as many", fill(plain(2), 0, 1, k).best(k), (1 << k) - 1);
        }
        Check.due("best(1) of a row", row(8).best(1), 127);
        RoadBench ring = fill(row(8), 7, 0, 1);
        Check.due("best(2) of a ring", ring.best(2), 255);
        RoadBench six = fill(fill(turned(2), 0, 1, 6), 1, 0, 6);
        Check.due("best(6) of six each way", six.best(6), 4095);
    }

    private static void bestOfPricesAtTheirBounds() {
        RoadBench x = fill(plain(2), 0, 1, 12);
        for (int road = 0; road < 12; road++) {
            x.worth(road, false, 1000);
        }
        Check.due("best of 1000 each", x.best(8), 255);
        x.worth(11, false, 999);
        Check.due("best of 999 once", x.best(8), 2048 + 127);
        for (int road = 0; road < 12; road++) {
            x.worth(road, false, 0);
        }
        Check.due("best of 0 each: the least as a number", x.best(8), 255);
        Check.due("best of 0 each: the least as a number", x.best(1), 1);
    }

    private static void takeOfNone() {
        for (int posts = 0; posts < 3; posts++) {
            RoadBench x = plain(posts);
            Check.due("take without roads", x.take(), 0);
            Check.due("take without roads is an act", x.undo(), posts);
        }
        Check.due("take of a tree", row(8).take(), 0);
    }

    private static void takeOfHoldZero() {
        RoadBench x = fill(plain(3), 0, 1, 20);
        Check.due("take of hold 0", x.take(), 20);
        looks("take of hold 0", x, "3 0 0 0 ");
        RoadBench y = fill(turned(2), 0, 1, 20);
        Check.due("take of one way", y.take(), 20);
    }

    private static void takeOfTwenty() {
        Check.due("take of twenty side by side", fill(plain(2), 0, 1, 20).take(), 0);
        RoadBench x = fill(fill(plain(3), 0, 1, 19), 1, 2, 1);
        Check.due("take of nineteen and one", x.take(), 18);
        looks("take of nineteen and one", x, "3 2 0 1 0,1,1,4 1,2,1,4 ");
        Check.due("take is undone whole", x.undo() + x.told(1), 23 + 20);
    }

    private static void takeGoesByNumbers() {
        RoadBench x = plain(3, 0, 1, 1, 2, 2, 0, 1, 0);
        x.worth(3, false, 9);
        x.worth(3, true, 1);
        Check.due("take: the first of two goes", x.take(), 1);
        looks("take: the first of two goes", x, "3 3 0 1 1,2,1,4 2,0,1,4 1,0,9,1 ");
    }

    private static void packTurned() {
        refused("pack, turned", true, TURNED, x -> x.pack());
        Check.due("pack of none, turned", turned(0).pack(), TURNED);
        Check.due("pack of one, turned", turned(1).pack(), TURNED);
    }

    private static void packOfZero() {
        Check.due("pack without posts", plain(0).pack(), 0);
        Check.due("pack of one", plain(1).pack(), 0);
        Check.due("pack of two without roads", plain(2).pack(), 0);
        Check.due("pack of eight without roads", plain(8).pack(), 0);
        Check.due("pack of one post apart", fill(plain(3), 0, 1, 20).pack(), 0);
        RoadBench x = fill(plain(2), 0, 1, 20);
        x.join(0, 1);
        Check.due("pack of two that are one", x.pack(), 0);
    }

    private static void packOfTwo() {
        Check.due("pack of a road", plain(2, 0, 1).pack(), 1);
        Check.due("pack of twenty", fill(plain(2), 0, 1, 20).pack(), 20);
        Check.due("pack of a row", row(8).pack(), 1);
        Check.due("pack of nineteen and one", fill(fill(plain(3), 0, 1, 19), 1, 2, 1).pack(), 1);
        Check.due("pack of ten and ten", fill(fill(plain(3), 0, 1, 10), 1, 2, 10).pack(), 10);
    }

    private static void forestsTurned() {
        refused("forests, turned", true, TURNED, x -> x.forests());
        Check.due("forests of none, turned", turned(0).forests(), TURNED);
    }

    private static void forestsWithoutRoads() {
        Check.due("forests without posts", plain(0).forests(), 0);
        Check.due("forests of one", plain(1).forests(), 0);
        Check.due("forests of eight without roads", plain(8).forests(), 0);
    }

    private static void forestsOfTwo() {
        Check.due("forests of a road", plain(2, 0, 1).forests(), 1);
        Check.due("forests of two roads between the same two", plain(2, 0, 1, 1, 0).forests(), 2);
        Check.due("forests of twenty", fill(plain(2), 0, 1, 20).forests(), 20);
        Check.due("forests of a row", row(8).forests(), 1);
        Check.due("forests of a ring", fill(row(8), 7, 0, 1).forests(), 2);
        Check.due("forests of two apart", fill(fill(plain(4), 0, 1, 3), 2, 3, 5).forests(), 5);
    }

    private static void treesTurned() {
        refused("trees, turned", true, TURNED, x -> x.trees());
        Check.due("trees of none, turned", turned(0).trees(), TURNED);
        Check.due("trees of one, turned", turned(1).trees(), TURNED);
    }

    private static void treesOfOneAndNone() {
        Check.due("trees of one", plain(1).trees(), 1);
        Check.due("trees without posts", plain(0).trees(), 0);
        Check.due("trees of two without roads", plain(2).trees(), 0);
        Check.due("trees of eight without roads", plain(8).trees(), 0);
        RoadBench x = fill(plain(2), 0, 1, 20);
        x.join(0, 1);
        Check.due("trees of two that are one", x.trees(), 1);
    }

    private static void treesOfTwo() {
        Check.due("trees of a road", plain(2, 0, 1).trees(), 1);
        Check.due("trees of twenty", fill(plain(2), 0, 1, 20).trees(), 20);
        RoadBench x = row(8);
        Check.due("trees of a row", x.trees(), 1);
        for (int post = 1; post < 7; post++) {
            fill(x, post, post + 1, 2);
        }
        Check.due("trees of three each", x.trees(), 729);
        x.road(0, 1);
        Check.due("trees of twenty roads in a row", x.trees(), 1458);
    }

    private static void armsBeyond() {
        for (int post : new int[] {-1, 3, 8, LOW, HIGH}) {
            refused("arms(" + post + ")", true, BEYOND, x -> x.arms(post));
            refused("arms(" + post + "): BEYOND ahead of KIND", false, BEYOND, x -> x.arms(post));
        }
        Check.due("arms(0) without posts", turned(0).arms(0), BEYOND);
        Check.due("arms(0) without posts, plain", plain(0).arms(0), BEYOND);
        Check.due("arms(1): BEYOND ahead of SIZE", turned(1).arms(1), BEYOND);
    }

    private static void armsPlain() {
        refused("arms(0) of a PLAIN net", false, KIND, x -> x.arms(0));
        refused("arms(2) of a PLAIN net", false, KIND, x -> x.arms(2));
        Check.due("arms: KIND ahead of SIZE", plain(1).arms(0), KIND);
    }

    private static void armsOfOne() {
        Check.due("arms of one", turned(1).arms(0), SIZE);
        RoadBench x = turned(2, 0, 1);
        x.join(0, 1);
        Check.due("arms of two that are one", x.arms(0), SIZE);
    }

    private static void armsOfTwo() {
        Check.due("arms of two without roads", turned(2).arms(0), 0);
        RoadBench x = fill(turned(2), 0, 1, 20);
        Check.due("arms of twenty", x.arms(0), 20);
        Check.due("arms against twenty", x.arms(1), 0);
        RoadBench y = fill(fill(turned(3), 0, 1, 19), 1, 2, 1);
        Check.due("arms of nineteen and one", y.arms(0), 1);
        Check.due("arms of one that none reaches", turned(3, 0, 1, 1, 0).arms(0), 0);
    }

    private static void turnsTurned() {
        refused("turns, turned", true, TURNED, x -> x.turns());
        Check.due("turns: TURNED ahead of NONE", turned(0).turns(), TURNED);
        Check.due("turns: TURNED ahead of NONE", turned(2).turns(), TURNED);
    }

    private static void turnsWithoutRoads() {
        for (int posts = 0; posts <= 8; posts++) {
            Check.due("turns without roads", plain(posts).turns(), NONE);
        }
        RoadBench x = plain(2, 0, 1);
        x.drop(0);
        Check.due("turns of a road that is gone", x.turns(), NONE);
    }

    private static void turnsOfTheLastRoad() {
        RoadBench x = plain(2, 1, 0);
        Check.due("turns of one road", x.turns(), 1);
        Check.due("turns of one road from 0", plain(2, 0, 1).turns(), 0);
        // The first road leads away from 0, so the other nineteen lead back from 1.
        Check.due("turns of twenty", fill(plain(2), 0, 1, 20).turns(), (1 << 20) - 2);
        RoadBench y = fill(plain(8), 7, 6, 20);
        Check.due("turns of the last two posts", y.turns(), 1);
        RoadBench back = plain(8);
        for (int post = 7; post > 0; post--) {
            back.road(post, post - 1);
        }
        Check.due("turns through eight posts", back.turns(), 127);
        Check.due("turns changes no road", back.of(0, 0), 7);
    }

    private static void strongTurned() {
        refused("strong, turned", true, TURNED, x -> x.strong());
        Check.due("strong of none, turned", turned(0).strong(), TURNED);
    }

    private static void strongOfLessThanTwo() {
        Check.due("strong without posts", plain(0).strong(), 0);
        Check.due("strong of one", plain(1).strong(), 1);
        Check.due("strong of two without roads", plain(2).strong(), 0);
    }

    private static void strongOfTwo() {
        Check.due("strong of a road", plain(2, 0, 1).strong(), 0);
        Check.due("strong of two roads", plain(2, 0, 1, 0, 1).strong(), 1);
        Check.due("strong of twenty", fill(plain(2), 0, 1, 20).strong(), 1);
        Check.due("strong of one post apart", fill(plain(3), 0, 1, 20).strong(), 0);
        Check.due("strong of a ring", fill(row(8), 7, 0, 1).strong(), 1);
        RoadBench hung = fill(row(7), 6, 0, 1);
        hung.post();
        hung.road(0, 7);
        Check.due("strong of a ring with a bridge", hung.strong(), 0);
        hung.road(0, 7);
        Check.due("strong of a ring with two roads to the last", hung.strong(), 1);
        Check.due("strong of a row", row(8).strong(), 0);
    }

    private static void chanceOfMoreThanTwelveTurned() {
        refusedAhead("chance of 13, turned", true, LONG, x -> x.chance(), x -> fill(x, 0, 1, 9));
        refusedAhead("chance of 20, turned", true, LONG, x -> x.chance(), x -> fill(x, 0, 1, 16));
        RoadBench x = fill(turned(3), 0, 1, 12);
        Check.due("chance of 12, turned", x.chance(), 0);
        x.road(0, 1);
        Check.due("chance of 13, turned, is not asked", x.chance(), LONG);
        RoadBench y = fill(plain(2), 0, 1, 13);
        Check.due("chance of 13, plain", y.chance(), (1L << 39) - (1L << 26));
    }

    private static void chanceOfLessThanTwo() {
        for (boolean kind : new boolean[] {false, true}) {
            Check.due("chance without posts", net(kind, 0).chance(), 0);
            Check.due("chance of one", net(kind, 1).chance(), 1);
            Check.due("chance of two without roads", net(kind, 2).chance(), 0);
            Check.due("chance of eight without roads", net(kind, 8).chance(), 0);
        }
    }

    private static void chanceOfSureAndOfNever() {
        for (int strength = 0; strength <= 8; strength++) {
            RoadBench x = plain(2, 0, 1);
            x.worth(0, true, strength);
            Check.due("chance of one road", x.chance(), strength);
            RoadBench y = turned(2, 0, 1, 1, 0);
            y.worth(0, true, strength);
            y.worth(1, true, 8);
            Check.due("chance of two roads, turned", y.chance(), 8 * strength);
            RoadBench z = plain(2, 0, 1, 0, 1);
            z.worth(0, true, strength);
            z.worth(1, true, 0);
            Check.due("chance beside a road that never is", z.chance(), 8 * strength);
        }
    }

    private static void chanceAtTheTop() {
        RoadBench x = fill(row(8), 7, 0, 13);
        for (int road = 0; road < 20; road++) {
            x.worth(road, true, 8);
        }
        Check.due("chance of twenty that are sure", x.chance(), 1L << 60);
        for (int road = 0; road < 20; road++) {
            x.worth(road, true, 0);
        }
        Check.due("chance of twenty that never are", x.chance(), 0);
        RoadBench y = fill(fill(turned(2), 0, 1, 6), 1, 0, 6);
        for (int road = 0; road < 12; road++) {
            y.worth(road, true, 8);
        }
        Check.due("chance of twelve that are sure, turned", y.chance(), 1L << 36);
    }
}
