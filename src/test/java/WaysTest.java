import java.util.Random;

/** 'Terms', WAYS: COST, DISTANCE and NEXT edge. */
public final class WaysTest {
    private static final Due due = new Due("WaysTest");
    private static final int SHAPE = Roads.shape(1, 10, 0);

    public static void main(String[] args) {
        costIsRoundedUp();
        costHasTheWeight();
        goalItself();
        goalThatCantBeReached();
        closedEdges();
        leastSum();
        startDoesNotCount();
        leastEdgeOfSeveral();
        byEitherLane();
        nextOfCars();
        waysChangeAtOnce();
        longWays();
        drawnRoads();
        due.end();
    }

    /** From edge 0 to edge 3 by edge 1, cost 20, or by edges 4 and 5, cost 7 each; edge 3 costs 5. */
    private static RoadDesk twoWays() {
        RoadDesk x = new RoadDesk();
        x.edge(0, 1, 50, SHAPE);
        x.edge(1, 10, 200, SHAPE);
        x.edge(3, 19, 50, SHAPE);
        x.edge(4, 12, 70, SHAPE);
        x.edge(5, 34, 70, SHAPE);
        return x;
    }

    private static void way(String when, RoadDesk x, int e, int goal, int distance, int next) {
        due.is(when + ": DISTANCE from " + e + " to " + goal, x.way(e, goal, 0), distance);
        due.is(when + ": NEXT from " + e + " to " + goal, x.way(e, goal, 1), next);
    }

    private static void costIsRoundedUp() {
        due.says("an edge COSTS LENGTH over LIMIT, rounded up");
        for (int limit = 1; limit <= 12; limit++) {
            RoadDesk x = new RoadDesk();
            int cost = 0;
            for (int length = 20; length <= 200; length++) {
                while (cost * limit < length) {
                    cost++;
                }
                x.edge(0, 1, length, Roads.shape(1, limit, 0));
                due.is("LENGTH " + length + " LIMIT " + limit, x.road(0, 2), cost);
            }
        }
    }

    private static void costHasTheWeight() {
        due.says("and its WEIGHT");
        int[] weights = {0, 1, 17, 999, 1000};
        for (int w : weights) {
            RoadDesk x = twoWays();
            x.weight(3, w);
            due.is("WEIGHT " + w, x.road(3, 2), 5 + w);
            way("WEIGHT " + w, x, 1, 3, 5 + w, 3);
            x.weight(3, -1);
            due.is("CLOSED, WEIGHT " + w, x.road(3, 2), 5 + w);
        }
    }

    private static void goalItself() {
        due.says("The DISTANCE from an edge to a GOAL is 0 if it is that");
        RoadDesk x = new RoadDesk();
        x.edge(0, 1, 50, SHAPE);
        x.edge(15, 8, 50, SHAPE);
        way("with a way round", x, 0, 0, 0, -2);
        way("with a way round", x, 15, 15, 0, -2);
        x.weight(0, -1);
        way("CLOSED", x, 0, 0, 0, -2);
        x.connect(15, 0, 0);
        way("leading nowhere", x, 15, 15, 0, -2);
        x.weight(15, 1000);
        way("with a WEIGHT", x, 15, 15, 0, -2);
    }

    private static void goalThatCantBeReached() {
        due.says("there is none if the GOAL can't be reached");
        RoadDesk x = twoWays();
        way("against the way", x, 3, 0, -2, -2);
        way("beside the way", x, 1, 4, -2, -2);
        x.connect(0, 0, 0);
        way("leading nowhere", x, 0, 3, -2, -2);
        way("leading nowhere", x, 0, 1, -2, -2);
        way("from the next one on", x, 1, 3, 5, 3);
        x.connect(0, 0, 8);
        way("leading to the GOAL alone, which begins elsewhere", x, 0, 3, -2, -2);
        x.edge(6, 48, 50, SHAPE);
        x.edge(7, 6, 50, SHAPE);
        way("round and round", x, 6, 3, -2, -2);
        way("round", x, 6, 7, 5, 7);
    }

    private static void closedEdges() {
        due.says("the COST of an OPEN edge that a lane of it leads to");
        RoadDesk x = twoWays();
        x.weight(4, -1);
        way("edge 4 CLOSED: by edge 1", x, 0, 3, 25, 1);
        way("to the CLOSED one", x, 0, 4, -2, -2);
        way("from the CLOSED one", x, 4, 3, 12, 5);
        x.weight(4, 0);
        x.weight(5, -1);
        way("edge 5 CLOSED, farther on: by edge 1", x, 0, 3, 25, 1);
        way("up to there", x, 0, 4, 7, 4);
        way("over it", x, 4, 3, -2, -2);
        x.weight(1, -1);
        way("both CLOSED", x, 0, 3, -2, -2);
        x.weight(1, 0);
        x.weight(3, -1);
        way("the GOAL CLOSED", x, 0, 3, -2, -2);
        way("the GOAL CLOSED, just before it", x, 1, 3, -2, -2);
        x.weight(3, 0);
        x.weight(0, -1);
        way("the first one CLOSED", x, 0, 3, 25, 1);
    }

    private static void leastSum() {
        due.says("else the least sum of the COST .. and the DISTANCE from there");
        RoadDesk x = twoWays();
        way("19 by edge 4, 25 by edge 1", x, 0, 3, 19, 4);
        x.weight(5, 5);
        way("24 by edge 4", x, 0, 3, 24, 4);
        x.weight(5, 7);
        way("26 by edge 4", x, 0, 3, 25, 1);
        x.weight(1, 2);
        way("27 by edge 1", x, 0, 3, 26, 4);
        // the dear way is found first, the cheap one later: by edge 0, or by edge 2, from edge 1 to edge 3
        RoadDesk y = new RoadDesk();
        y.edge(0, 10, 50, SHAPE);
        y.edge(1, 1, 50, SHAPE);
        y.edge(2, 10, 50, SHAPE);
        y.edge(3, 19, 50, SHAPE);
        y.weight(0, 100);
        way("by edge 2", y, 1, 3, 10, 2);
        y.weight(0, 0);
        y.weight(2, 100);
        way("by edge 0", y, 1, 3, 10, 0);
        // from junctions 1, 2 and 3 there is a dear edge (0, 1, 2) to junction 4 each; the cheap way is the long one
        RoadDesk z = new RoadDesk();
        for (int e = 0; e < 3; e++) {
            z.edge(e, 8 * (1 + e) + 4, 200, Roads.shape(1, 1, 0));
            z.edge(3 + e, 8 * e + e + 1, 50, SHAPE);
        }
        z.edge(6, 28, 50, SHAPE);
        z.edge(7, 37, 50, SHAPE);
        way("three edges on", z, 5, 7, 10, 6);
        way("four edges on", z, 4, 7, 15, 5);
        way("five edges on", z, 3, 7, 20, 4);
        // the nearer one of two costs more in the end
        x.weight(1, 0);
        x.weight(4, 0);
        x.weight(5, 1000);
        way("edge 4 is nearer", x, 0, 3, 25, 1);
    }

    private static void startDoesNotCount() {
        due.says("the sum of the COST of an edge that a lane of it leads to and the DISTANCE from there");
        RoadDesk x = twoWays();
        x.weight(0, 500);
        way("the COST of the edge itself is not in it", x, 0, 3, 19, 4);
        way("that of the GOAL is", x, 5, 3, 5, 3);
        way("and those between", x, 4, 3, 12, 5);
    }

    private static void leastEdgeOfSeveral() {
        due.says("the NEXT edge is the least one of those by which it is so");
        RoadDesk x = new RoadDesk();
        x.edge(9, 1, 50, Roads.shape(2, 10, 0));
        x.edge(7, 10, 50, SHAPE);
        x.edge(2, 11, 50, SHAPE);
        x.edge(5, 20, 50, SHAPE);
        x.edge(8, 28, 50, SHAPE);
        x.edge(1, 37, 50, SHAPE);
        way("the lesser of 2 and 7", x, 9, 1, 15, 2);
        x.weight(8, 1);
        way("7 is less by 1", x, 9, 1, 15, 7);
        x.weight(8, 0);
        x.weight(2, 1);
        x.weight(7, 1);
        way("both more by 1", x, 9, 1, 16, 2);
        // of three between the same junctions, made from the greatest on
        RoadDesk y = new RoadDesk();
        y.edge(0, 1, 50, SHAPE);
        y.edge(12, 19, 50, SHAPE);
        for (int e = 15; e >= 13; e--) {
            y.edge(e, 10, 50, SHAPE);
        }
        way("the least of 13, 14 and 15", y, 0, 12, 10, 13);
        y.weight(13, -1);
        way("the least of 14 and 15", y, 0, 12, 10, 14);
        y.weight(14, 1);
        way("15 is less by 1", y, 0, 12, 10, 15);
        // ways of two and of three edges that cost the same
        RoadDesk z = twoWays();
        z.weight(4, 6);
        way("25 by both", z, 0, 3, 25, 1);
        z.edge(2, 10, 130, SHAPE);
        z.edge(0, 1, 50, SHAPE);
        z.weight(1, -1);
        z.weight(4, 0);
        z.edge(5, 34, 60, SHAPE);
        way("18 by both 2 and 4, 5", z, 0, 3, 18, 2);
    }

    private static void byEitherLane() {
        due.says("an OPEN edge that a lane of it leads to");
        for (int lane = 0; lane < 2; lane++) {
            RoadDesk x = twoWays();
            x.edge(0, 1, 50, Roads.shape(2, 10, 0));
            x.connect(0, lane, 2);
            x.connect(0, 1 - lane, 16);
            way("edge 4 by lane " + (1 - lane), x, 0, 3, 19, 4);
            way("edge 1 by lane " + lane, x, 0, 1, 20, 1);
            x.connect(0, 1 - lane, 0);
            way("edge 1 alone, by lane " + lane, x, 0, 3, 25, 1);
        }
    }

    private static void nextOfCars() {
        due.says("For a car on another edge than its GOAL the NEXT edge is the least one of those by which it is so");
        RoadDesk x = twoWays();
        x.car(0, 0, 0, 3);
        x.car(1, 0, 3, 3);
        x.car(2, 0, 3, 0);
        due.is("WAITING", x.of(0, 7), 4);
        x.run(1);
        due.is("ON", x.of(0, 7), 4);
        due.is("on its GOAL", x.of(1, 7), -2);
        due.is("its GOAL can't be reached", x.of(2, 7), -2);
        x.weight(4, 7);
        due.is("by edge 1 now", x.of(0, 7), 1);
        x.weight(1, -1);
        due.is("by edge 4 again", x.of(0, 7), 4);
        x.aim(0, 1);
        due.is("edge 1 is CLOSED", x.of(0, 7), -2);
    }

    private static void waysChangeAtOnce() {
        due.says("WAYS");
        RoadDesk x = twoWays();
        x.edge(1, 10, 130, SHAPE);
        way("edge 1 made anew, shorter", x, 0, 3, 18, 1);
        x.edge(1, 10, 130, Roads.shape(1, 5, 0));
        way("edge 1 made anew, slower", x, 0, 3, 19, 4);
        x.connect(4, 0, 65535 - 32);
        way("edge 4 does not lead to 5 any more", x, 0, 3, 31, 1);
        x.edge(4, 12, 70, SHAPE);
        way("edge 4 made anew", x, 0, 3, 19, 4);
        x.weight(5, -1);
        way("edge 5 CLOSED", x, 0, 3, 31, 1);
        x.edge(5, 34, 70, SHAPE);
        way("edge 5 made anew", x, 0, 3, 19, 4);
        x.edge(5, 33, 70, SHAPE);
        way("edge 5 leads elsewhere", x, 0, 3, 31, 1);
    }

    private static void longWays() {
        due.says("the DISTANCE from there");
        // by junctions 0 .. 7 and back to 0, each edge leading to the next one alone; numbers with and against the way
        for (int order = 0; order < 2; order++) {
            RoadDesk x = new RoadDesk();
            int[] number = new int[14];
            for (int i = 0; i < 14; i++) {
                int from = i < 7 ? i : 14 - i;
                int to = i < 7 ? i + 1 : 13 - i;
                number[i] = order == 0 ? 15 - i : 1 + i;
                x.edge(number[i], 8 * from + to, 200, Roads.shape(1, 1, 0));
                x.weight(number[i], 1000);
            }
            for (int i = 0; i < 13; i++) {
                x.connect(number[i], 0, 1 << number[i + 1]);
            }
            for (int i = 0; i < 14; i++) {
                way("order " + order, x, number[0], number[i], 1200 * i, i == 0 ? -2 : number[1]);
                way("order " + order, x, number[i], number[13], 1200 * (13 - i), i == 13 ? -2 : number[i + 1]);
            }
            x.connect(number[13], 0, 1 << number[0]);
            way("round", x, number[13], number[12], 1200 * 13, number[0]);
        }
        // sixteen edges to and fro between junctions 0 and 1: fifteen crossings
        RoadDesk y = new RoadDesk();
        for (int e = 0; e < 16; e++) {
            y.edge(e, e % 2 == 0 ? 1 : 8, 20 + e, Roads.shape(1, 1, 0));
            y.connect(e, 0, e == 15 ? 0 : 2 << e);
        }
        int sum = 0;
        for (int e = 1; e < 16; e++) {
            sum += 20 + e;
        }
        way("over all sixteen", y, 0, 15, sum, 1);
        way("not back", y, 15, 0, -2, -2);
    }

    /** All sixteen edges, drawn with fixed seeds: what is least is worked out by the cheapest first steps, as in Model. */
    private static void drawnRoads() {
        due.says("the least sum of the COST of an OPEN edge that a lane of it leads to and the DISTANCE from there");
        for (int seed = 0; seed < 200; seed++) {
            Random random = new Random(seed);
            int junctions = 3 + seed % 6;
            RoadDesk x = new RoadDesk();
            Model m = new Model();
            for (int e = 0; e < 16; e++) {
                int from = random.nextInt(junctions);
                int ends = 8 * from + (from + 1 + random.nextInt(junctions - 1)) % junctions;
                int length = 20 + random.nextInt(60);
                int shape = Roads.shape(1 + random.nextInt(2), 1 + random.nextInt(12), 0);
                int mask = random.nextInt(65536) | random.nextInt(65536);
                int weight = random.nextInt(10) == 0 ? -1 : random.nextInt(40);
                x.edge(e, ends, length, shape);
                m.edge(e, ends, length, shape);
                x.connect(e, 0, mask);
                m.connect(e, 0, mask);
                x.weight(e, weight);
                m.weight(e, weight);
            }
            for (int e = 0; e < 16; e++) {
                for (int goal = 0; goal < 16; goal++) {
                    int what = (e + goal + seed) % 2;
                    String when = "seed " + seed + " from " + e + " to " + goal + ", what " + what;
                    due.is(when, x.way(e, goal, what), m.way(e, goal, what));
                }
            }
        }
    }
}
