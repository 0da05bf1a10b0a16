/** Promises 11 to 16: of, lane, road, junction, way, total. */
public final class AnswersTest {
    private static final Due due = new Due("AnswersTest");
    private static final int MIN = Integer.MIN_VALUE, MAX = Integer.MAX_VALUE;

    public static void main(String[] args) {
        ofEachState();
        ofEdgesAndLanes();
        ofTheGrantedEdge();
        ofOthers();
        laneFromTheGreatestFront();
        laneOfEachEdge();
        laneOfNone();
        roadCountsCars();
        roadCostGreenOpen();
        roadCountsThoseThatCame();
        roadOfOthers();
        junctionPhases();
        junctionHolders();
        junctionOfOthers();
        wayOfEachKind();
        wayOfOthers();
        totalSteps();
        totalOfEachKind();
        totalStays();
        totalHardStops();
        totalOfOthers();
        answersChangeNothing();
        due.end();
    }

    private static void all(String when, RoadDesk x, int c, int... want) {
        for (int what = 0; what < 8; what++) {
            due.is(when + ": of(" + c + ", " + what + ")", x.of(c, what), want[what]);
        }
    }

    // ---- promise 11

    private static void ofEachState() {
        due.says("0: 0 NONE, 1 WAITING, 2 ON; .. NONE if there is none (of a car NONE all but what 0)");
        RoadDesk x = Roads.line(2, 25, 60, 60);
        x.connect(0, 0, 0);
        all("NONE", x, 3, 0, -2, -2, -2, -2, -2, -2, -2);
        x.car(3, 0, 0, 2);
        all("WAITING", x, 3, 1, 0, -2, -2, -2, -2, 2, 1);
        x.run(1);
        all("ON", x, 3, 2, 0, 1, 4, 0, -2, 2, 1);
        x.run(2);
        all("GRANTED", x, 3, 2, 0, 1, 7, 2, 1, 2, 1);
        x.weight(1, -1);
        all("no way any more", x, 3, 2, 0, 1, 7, 2, 1, 2, -2);
        x.weight(1, 0);
        x.run(5);
        all("across", x, 3, 2, 1, 1, 6, 6, -2, 2, 2);
        x.aim(3, 1);
        all("on its GOAL", x, 3, 2, 1, 1, 6, 6, -2, 1, -2);
        x.run(20);
        all("ARRIVED", x, 3, 0, -2, -2, -2, -2, -2, -2, -2);
        x.car(3, 0, 0, 1);
        all("WAITING again", x, 3, 1, 0, -2, -2, -2, -2, 1, 1);
        x.remove(3);
        all("removed", x, 3, 0, -2, -2, -2, -2, -2, -2, -2);
    }

    private static void ofEdgesAndLanes() {
        due.says("1: its edge; 2: its lane, 3: FRONT, 4: SPEED .. 6: its GOAL; 7: its NEXT edge");
        int[] edges = {0, 7, 15};
        for (int e : edges) {
            for (int lane = 0; lane < 2; lane++) {
                RoadDesk x = new RoadDesk();
                int next = (e + 3) % 16;
                x.edge(e, 1, 80, Roads.shape(2, 12, 0));
                x.edge(next, 10, 80, Roads.shape(2, 12, 0));
                x.connect(e, 1 - lane, 0);
                x.car(31, 0, e, next);
                x.car(0, 0, next, next);
                x.run(3);
                all("edge " + e + " lane " + lane, x, 31, 2, e, lane, 7, 2, -2, next, next);
                all("edge " + next, x, 0, 2, next, 0, 7, 2, -2, next, -2);
            }
        }
    }

    private static void ofTheGrantedEdge() {
        due.says("5: the edge that it is GRANTED");
        int[] edges = {0, 1, 15};
        for (int granted : edges) {
            for (int lane = 0; lane < 2; lane++) {
                RoadDesk x = new RoadDesk();
                x.edge(5, 1, 40, Roads.shape(2, 12, 0));
                x.edge(granted, 10, 80, Roads.shape(2, 12, 0));
                x.connect(5, 1 - lane, 0);
                x.car(2, 0, 5, granted);
                x.run(1);
                due.is("not yet", x.of(2, 5), -2);
                x.run(1);
                due.is("GRANTED from lane " + lane, x.of(2, 5), granted);
                x.run(15);
                due.is("across", x.of(2, 1), granted);
                due.is("not any more", x.of(2, 5), -2);
            }
        }
    }

    private static void ofOthers() {
        due.says("BAD for another what, and if there is no such car");
        RoadDesk x = Roads.line(2, 60, 60, 60);
        x.car(0, 0, 0, 1);
        int[] cars = {-1, 32, MIN, MAX};
        for (int c : cars) {
            for (int what = -1; what <= 8; what++) {
                due.is("of " + c + " " + what, x.of(c, what), -1);
            }
        }
        int[] whats = {-1, -2, 8, 9, 100, MIN, MAX};
        for (int what : whats) {
            due.is("NONE: of 1 " + what, x.of(1, what), -1);
            due.is("WAITING: of 0 " + what, x.of(0, what), -1);
        }
        x.run(5);
        for (int what : whats) {
            due.is("ON: of 0 " + what, x.of(0, what), -1);
        }
    }

    // ---- promise 12

    private static void laneFromTheGreatestFront() {
        due.says("The k-th car on a lane, from the greatest FRONT on (0 first)");
        int[][] orders = {{9, 2, 30, 0}, {0, 1, 2, 3}, {31, 30, 29, 28}};
        for (int[] order : orders) {
            for (int lane = 0; lane < 2; lane++) {
                RoadDesk x = Roads.line(2, 100, 60, 60);
                Roads.red(x, 1);
                x.connect(0, 1 - lane, 0);
                for (int c : order) {
                    x.car(c, 0, 0, 2);
                }
                due.is("WAITING ones are not on it", x.lane(0, lane, 0), -2);
                Roads.run(x, 50);
                for (int k = 0; k < 4; k++) {
                    due.is("lane " + lane + ", " + k, x.lane(0, lane, k), order[k]);
                    due.is("none on the other", x.lane(0, 1 - lane, k), -2);
                }
                due.is("no fifth", x.lane(0, lane, 4), -2);
                x.remove(order[1]);
                due.is("one less, 0", x.lane(0, lane, 0), order[0]);
                due.is("one less, 1", x.lane(0, lane, 1), order[2]);
                due.is("one less, 2", x.lane(0, lane, 2), order[3]);
                due.is("one less, 3", x.lane(0, lane, 3), -2);
            }
        }
    }

    private static void laneOfEachEdge() {
        due.says("The k-th car on a lane");
        // two on each edge, one to a lane: car e on lane 0 of edge e, on its GOAL, and car 16 + e on lane 1
        RoadDesk x = new RoadDesk();
        for (int e = 0; e < 16; e++) {
            x.edge(e, e % 2 == 0 ? 1 : 8, 200, Roads.shape(2, 12, 0));
            x.connect(e, 0, 0);
        }
        for (int e = 0; e < 16; e++) {
            x.car(e, 0, e, e);
            x.car(16 + e, 0, e, e ^ 1);
        }
        x.run(4);
        for (int e = 0; e < 16; e++) {
            due.is("lane 0 of " + e, x.lane(e, 0, 0), e);
            due.is("lane 1 of " + e, x.lane(e, 1, 0), 16 + e);
            due.is("no other on lane 0 of " + e, x.lane(e, 0, 1), -2);
            due.is("no other on lane 1 of " + e, x.lane(e, 1, 1), -2);
        }
    }

    private static void laneOfNone() {
        due.says("NONE if there is none, or no such lane");
        RoadDesk x = Roads.line(2, 100, 60, 60);
        x.edge(4, 1, 20, Roads.shape(1, 1, 0));
        x.edge(15, 1, 20, Roads.shape(2, 1, 0));
        x.car(0, 0, 0, 0);
        x.car(1, 0, 4, 4);
        x.car(2, 0, 15, 15);
        x.run(1);
        due.is("there", x.lane(0, 0, 0), 0);
        due.is("there", x.lane(4, 0, 0), 1);
        due.is("there", x.lane(15, 0, 0), 2);
        int[][] none = {{0, 0, -1}, {0, 0, 1}, {0, 0, 31}, {0, 0, 32}, {0, 0, MIN}, {0, 0, MAX}, {0, 1, 0},
            {0, -1, 0}, {0, 2, 0}, {0, MIN, 0}, {0, MAX, 0}, {-1, 0, 0}, {-1, 1, 0}, {-1, 2, 0}, {16, 0, 0},
            {16, -1, 0}, {3, 0, 0}, {4, 1, 0}, {4, -1, 0}, {1, -2, 0}, {MIN, 0, 0}, {MAX, 0, 0}, {MIN, MIN, MIN},
            {MAX, MAX, MAX}, {-1, -1, -1}};
        for (int[] n : none) {
            due.is("lane " + n[0] + " " + n[1] + " " + n[2], x.lane(n[0], n[1], n[2]), -2);
        }
    }

    // ---- promise 13

    private static void roadCountsCars() {
        due.says("0: how many cars are ON it, 1: WAITING for it");
        RoadDesk x = Roads.line(2, 60, 60, 60);
        Roads.red(x, 1);
        x.connect(1, 0, 0);
        for (int c = 0; c < 12; c++) {
            x.car(c, 0, c % 3, 2);
        }
        for (int e = 0; e < 3; e++) {
            due.is("ON " + e, x.road(e, 0), 0);
            due.is("WAITING for " + e, x.road(e, 1), 4);
        }
        x.run(1);
        for (int e = 0; e < 3; e++) {
            due.is("ON " + e, x.road(e, 0), 1);
            due.is("WAITING for " + e, x.road(e, 1), 3);
        }
        x.weight(0, -1);
        x.remove(1);
        x.remove(5);
        x.run(3);
        int[] on = {1, 1, 2};
        int[] waiting = {3, 2, 1};
        for (int e = 0; e < 3; e++) {
            due.is("ON " + e, x.road(e, 0), on[e]);
            due.is("WAITING for " + e, x.road(e, 1), waiting[e]);
        }
        // on both lanes together
        RoadDesk y = Roads.fork(60);
        y.car(0, 0, 0, 1);
        y.car(1, 0, 0, 2);
        y.run(2);
        due.is("on both lanes", y.road(0, 0), 2);
        // one that is GRANTED is still ON its own edge
        RoadDesk z = Roads.line(1, 40, 60, 60);
        z.car(0, 0, 0, 1);
        z.run(2);
        due.is("GRANTED", z.of(0, 5), 1);
        due.is("ON its own", z.road(0, 0), 1);
        due.is("not yet ON the other", z.road(1, 0), 0);
    }

    private static void roadCostGreenOpen() {
        due.says("2: its COST; 3: 1 if it is GREEN, else 0; .. 5: 1 if it is OPEN, else 0");
        RoadDesk x = Roads.line(2, 25, 61, 60);
        int[] first = {0, 0, 6, 1, 0, 1};
        for (int what = 0; what < 6; what++) {
            due.is("at first: road(1, " + what + ")", x.road(1, what), first[what]);
        }
        x.weight(1, 9);
        x.weight(1, -1);
        x.phase(2, 0, 65535 - 2, Roads.LONG);
        x.car(0, 0, 1, 1);
        x.car(1, 0, 1, 1);
        int[] closed = {0, 2, 15, 0, 0, 0};
        for (int what = 0; what < 6; what++) {
            due.is("CLOSED: road(1, " + what + ")", x.road(1, what), closed[what]);
        }
        x.weight(1, 2);
        x.phase(2, 0, 2, Roads.LONG);
        x.run(1);
        int[] open = {1, 1, 8, 1, 1, 1};
        for (int what = 0; what < 6; what++) {
            due.is("OPEN: road(1, " + what + ")", x.road(1, what), open[what]);
        }
        int[] others = {0, 0, 3, 1, 0, 1};
        for (int what = 0; what < 6; what++) {
            due.is("another: road(0, " + what + ")", x.road(0, what), others[what]);
        }
    }

    private static void roadCountsThoseThatCame() {
        due.says("4: how many came ON it (also from other edges) since it was made");
        RoadDesk x = Roads.line(1, 25, 60, 60);
        x.car(0, 0, 1, 1);
        due.is("WAITING", x.road(1, 4), 0);
        x.run(1);
        due.is("came ON", x.road(1, 4), 1);
        x.run(14);
        due.is("ARRIVED", x.of(0, 0), 0);
        due.is("and stays counted", x.road(1, 4), 1);
        x.car(2, 0, 0, 2);
        x.run(2);
        due.is("GRANTED it, but not ON it", x.road(1, 4), 1);
        x.run(6);
        due.is("from another edge", x.of(2, 1), 1);
        due.is("from another edge", x.road(1, 4), 2);
        due.is("the one that it came from", x.road(0, 4), 1);
        due.is("the next one", x.road(2, 4), 0);
        x.remove(2);
        due.is("removed", x.road(1, 4), 2);
        x.edge(1, 10, 60, Roads.shape(1, 12, 0));
        due.is("made anew", x.road(1, 4), 0);
        due.is("another was not", x.road(0, 4), 1);
        // a change of lanes does not count
        RoadDesk y = Roads.fork(100);
        y.car(0, 0, 0, 1);
        y.run(2);
        y.aim(0, 2);
        y.run(1);
        due.is("changed", y.total(3), 1);
        due.is("came ON once", y.road(0, 4), 1);
    }

    private static void roadOfOthers() {
        due.says("BAD if there is none, or for others");
        RoadDesk x = Roads.line(2, 25, 60, 60);
        int[] edges = {-1, 3, 15, 16, MIN, MAX};
        for (int e : edges) {
            for (int what = -1; what <= 6; what++) {
                due.is("road " + e + " " + what, x.road(e, what), -1);
            }
        }
        int[] whats = {-1, -2, 6, 7, 100, MIN, MAX};
        for (int what : whats) {
            for (int e = 0; e < 3; e++) {
                due.is("road " + e + " " + what, x.road(e, what), -1);
            }
        }
    }

    // ---- promise 14

    private static void junctionPhases() {
        due.says("0: the phase at hand (NONE without any), 1: how old it is (0 without)");
        RoadDesk x = new RoadDesk();
        for (int j = 0; j < 8; j++) {
            due.is("none: phase", x.junction(j, 0), -2);
            due.is("none: age", x.junction(j, 1), 0);
            for (int k = 0; k < 3; k++) {
                x.phase(j, k, 0, 101 * (2 + j));
            }
            due.is("phase", x.junction(j, 0), 0);
            due.is("age", x.junction(j, 1), 0);
        }
        for (int step = 1; step <= 12; step++) {
            x.run(1);
            for (int j = 0; j < 8; j++) {
                due.is("phase of " + j + ", step " + step, x.junction(j, 0), step / (2 + j) % 3);
                due.is("age of " + j + ", step " + step, x.junction(j, 1), step % (2 + j));
            }
        }
        for (int j = 0; j < 8; j++) {
            x.phase(j, 0, 0, 0);
            due.is("all gone: phase", x.junction(j, 0), -2);
            due.is("all gone: age", x.junction(j, 1), 0);
        }
    }

    private static void junctionHolders() {
        due.says("2: how many cars HOLD it, 3: the edge, 4: the lane that they came from (NONE if none does)");
        int[] edges = {0, 6, 15};
        for (int e : edges) {
            for (int lane = 0; lane < 2; lane++) {
                RoadDesk x = new RoadDesk();
                x.edge(e, 8 * 7, 40, Roads.shape(2, 12, 0));
                x.edge(9, 3, 60, Roads.shape(2, 12, 0));
                x.connect(e, 1 - lane, 0);
                x.type(0, 2, 2, 4);
                for (int c = 0; c < 3; c++) {
                    x.car(c, 0, e, 9);
                }
                x.run(1);
                int[] none = {-2, 0, 0, -2, -2};
                int[] one = {-2, 0, 1, e, lane};
                int[] two = {-2, 0, 2, e, lane};
                for (int what = 0; what < 5; what++) {
                    due.is("none: junction(0, " + what + ")", x.junction(0, what), none[what]);
                }
                x.run(1);
                for (int what = 0; what < 5; what++) {
                    due.is("one: junction(0, " + what + ")", x.junction(0, what), one[what]);
                    due.is("one: junction(7, " + what + ")", x.junction(7, what), none[what]);
                    due.is("one: junction(3, " + what + ")", x.junction(3, what), none[what]);
                }
                x.run(4);
                for (int what = 0; what < 5; what++) {
                    due.is("two: junction(0, " + what + ")", x.junction(0, what), two[what]);
                }
            }
        }
    }

    private static void junctionOfOthers() {
        due.says("BAD for others");
        RoadDesk x = Twins.busy();
        int[] whats = {-1, -2, 5, 6, 100, MIN, MAX};
        for (int j = 0; j < 8; j++) {
            for (int what : whats) {
                due.is("junction " + j + " " + what, x.junction(j, what), -1);
            }
        }
        int[] none = {-1, 8, 9, MIN, MAX};
        for (int j : none) {
            for (int what = -1; what <= 5; what++) {
                due.is("junction " + j + " " + what, x.junction(j, what), -1);
            }
        }
    }

    // ---- promise 15

    private static void wayOfEachKind() {
        due.says("0: the DISTANCE, 1: the NEXT edge; NONE if there is none (of the GOAL itself: no NEXT edge)");
        RoadDesk x = new RoadDesk();
        x.edge(0, 1, 50, Roads.shape(1, 10, 0));
        x.edge(8, 10, 60, Roads.shape(1, 10, 0));
        x.edge(15, 19, 70, Roads.shape(1, 10, 0));
        int[] edges = {0, 8, 15};
        int[][] distance = {{0, 6, 13}, {-2, 0, 7}, {-2, -2, 0}};
        int[][] next = {{-2, 8, 8}, {-2, -2, 15}, {-2, -2, -2}};
        for (int i = 0; i < 3; i++) {
            for (int k = 0; k < 3; k++) {
                String when = "from " + edges[i] + " to " + edges[k];
                due.is(when + ", DISTANCE", x.way(edges[i], edges[k], 0), distance[i][k]);
                due.is(when + ", NEXT", x.way(edges[i], edges[k], 1), next[i][k]);
            }
        }
    }

    private static void wayOfOthers() {
        due.says("BAD if there is no such edge, or for others");
        RoadDesk x = Roads.line(2, 50, 50, 50);
        int[] bad = {-1, 3, 15, 16, MIN, MAX};
        for (int b : bad) {
            for (int what = -1; what <= 2; what++) {
                due.is("from " + b, x.way(b, 0, what), -1);
                due.is("to " + b, x.way(0, b, what), -1);
                due.is("both " + b, x.way(b, b, what), -1);
            }
        }
        int[] whats = {-1, -2, 2, 3, 100, MIN, MAX};
        for (int what : whats) {
            due.is("a way, what " + what, x.way(0, 1, what), -1);
            due.is("no way, what " + what, x.way(1, 0, what), -1);
            due.is("the GOAL itself, what " + what, x.way(1, 1, what), -1);
        }
    }

    // ---- promise 16

    private static void totals(String when, RoadDesk x, int... want) {
        for (int what = 0; what < 7; what++) {
            due.is(when + ": total " + what, x.total(what), want[what]);
        }
    }

    private static void totalSteps() {
        due.says("0: STEPS");
        RoadDesk x = new RoadDesk();
        int[] runs = {0, 1, 20, 3, 0, 7};
        int steps = 0;
        for (int n : runs) {
            x.run(n);
            steps += n;
            totals("after " + steps, x, steps, 0, 0, 0, 0, 0, 0);
        }
    }

    private static void totalOfEachKind() {
        due.says("1: how many cars came ON from WAITING, 2: ARRIVED, 3: changes of lanes, 4: GRANTED; .. 6: the steps");
        RoadDesk x = Roads.line(2, 25, 60, 60);
        x.connect(0, 0, 0);
        x.car(0, 0, 0, 1);
        totals("WAITING", x, 0, 0, 0, 0, 0, 0, 0);
        x.run(1);
        totals("came ON", x, 1, 1, 0, 0, 0, 0, 0);
        x.run(1);
        totals("GRANTED", x, 2, 1, 0, 0, 1, 0, 0);
        x.run(6);
        due.is("across", x.of(0, 1), 1);
        totals("came ON edge 1, but not from WAITING", x, 8, 1, 0, 0, 1, 0, 0);
        // FRONT 31 - 25 on edge 1 after step 8, 60 after step 17: beyond it in step 18
        x.run(9);
        totals("before the end", x, 17, 1, 0, 0, 1, 0, 0);
        x.run(1);
        totals("ARRIVED", x, 18, 1, 1, 0, 1, 0, 17);
        x.car(0, 0, 0, 0);
        x.run(2);
        x.remove(0);
        totals("removed", x, 20, 2, 1, 0, 1, 0, 17);
        x.connect(0, 0, 2);
        x.car(4, 0, 0, 1);
        x.run(1);
        x.connect(0, 0, 0);
        x.run(1);
        totals("changed lanes", x, 22, 3, 1, 1, 2, 0, 17);
    }

    private static void totalStays() {
        due.says("What 0: STEPS; 1: ..");
        RoadDesk x = Roads.line(2, 25, 60, 60);
        x.connect(0, 0, 0);
        x.car(0, 0, 0, 1);
        x.run(18);
        totals("before", x, 18, 1, 1, 0, 1, 0, 17);
        x.edge(0, 1, 30, Roads.shape(1, 12, 0));
        x.type(0, 5, 2, 4);
        x.phase(0, 0, 0, 101);
        x.weight(1, -1);
        totals("after edge, type, phase and weight", x, 18, 1, 1, 0, 1, 0, 17);
    }

    private static void totalHardStops() {
        due.says("5: how often a SPEED fell by more than 2");
        // behind one that stops, over a junction, at an END, on a slow edge: it never does
        RoadDesk x = Roads.line(1, 80, 20, 200);
        x.edge(2, 19, 200, Roads.shape(1, 1, 0));
        x.type(0, 12, 3, 3);
        x.type(1, 12, 3, 98);
        x.phase(2, 0, 2, 505);
        x.phase(2, 1, 0, 707);
        for (int c = 0; c < 12; c++) {
            x.car(c, c % 2, 0, 2);
        }
        Roads.run(x, 200);
        due.is("none", x.total(5), 0);
        due.yes("they were GRANTED", x.total(4) > 12);
    }

    private static void totalOfOthers() {
        due.says("BAD for others");
        int[] bad = {-1, -2, 7, 8, 100, MIN, MAX};
        RoadDesk x = Twins.busy();
        for (int b : bad) {
            due.is("total " + b, x.total(b), -1);
            due.is("total " + b + " of a new one", new RoadDesk().total(b), -1);
        }
    }

    private static void answersChangeNothing() {
        due.says("(an answer changes nothing)");
        Twins.check(due, "of", Twins::busy, x -> x.of(0, 9), -1);
        Twins.check(due, "lane", Twins::busy, x -> x.lane(0, 9, 0), -2);
        Twins.check(due, "road", Twins::busy, x -> x.road(0, 9), -1);
        Twins.check(due, "junction", Twins::busy, x -> x.junction(0, 9), -1);
        Twins.check(due, "way", Twins::busy, x -> x.way(0, 0, 9), -1);
        Twins.check(due, "total", Twins::busy, x -> x.total(9), -1);
    }
}
