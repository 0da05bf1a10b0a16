/** Promises 11 to 16: of, lane, road, junction, way, total. */
public final class AnswersTest {
    private static final Due due = new Due("AnswersTest");
    private static final int MIN = Integer.MIN_VALUE, MAX = Integer.MAX_VALUE;

    public static void main(String[] args) {
        ofEachState();
        ofWrongOnes();
        laneFromTheGreatestFront();
        roadOfEachKind();
        junctionOfEachKind();
        wayByLeastCost();
        wayByLeastEdge();
        wayOverLongRoads();
        wayWrongOnes();
        totalOfEachKind();
        due.end();
    }

    private static void all(String when, RoadDesk x, int c, int... want) {
        for (int what = 0; what < 8; what++) {
            due.is(when + ": of(" + c + ", " + what + ")", x.of(c, what), want[what]);
        }
    }

    private static void ofEachState() {
        RoadDesk x = Roads.line(2, 25, 60, 60);
        x.connect(0, 0, 0);
        all("NONE", x, 3, 0, -2, -2, -2, -2, -2, -2, -2);
        x.car(3, 0, 0, 2);
        all("WAITING", x, 3, 1, 0, -2, -2, -2, -2, 2, 1);
        x.run(1);
        all("ON", x, 3, 2, 0, 1, 4, 0, -2, 2, 1);
        x.run(2);
        all("GRANTED", x, 3, 2, 0, 1, 7, 2, 1, 2, 1);
        x.weight(1, -1);
        all("no way any more", x, 3, 2, 0, 1, 7, 2, 1, 2, -2);
        x.weight(1, 0);
        x.run(5);
        all("across", x, 3, 2, 1, 1, 6, 6, -2, 2, 2);
        x.aim(3, 1);
        all("on its GOAL", x, 3, 2, 1, 1, 6, 6, -2, 1, -2);
        x.run(20);
        all("ARRIVED", x, 3, 0, -2, -2, -2, -2, -2, -2, -2);
    }

    private static void ofWrongOnes() {
        RoadDesk x = Roads.line(2, 25, 60, 60);
        x.car(0, 0, 0, 0);
        int[] cars = {-1, 32, MIN, MAX};
        for (int c : cars) {
            for (int what = -1; what <= 8; what++) {
                due.is("of " + c + " " + what, x.of(c, what), -1);
            }
        }
        int[] whats = {-1, 8, MIN, MAX};
        for (int what : whats) {
            due.is("WAITING: of 0 " + what, x.of(0, what), -1);
            due.is("NONE: of 1 " + what, x.of(1, what), -1);
        }
        x.run(1);
        for (int what : whats) {
            due.is("ON: of 0 " + what, x.of(0, what), -1);
        }
    }

    private static void laneFromTheGreatestFront() {
        RoadDesk x = Roads.line(2, 100, 60, 60);
        x.phase(1, 0, 0, Roads.LONG);
        x.connect(0, 1, 0);
        int[] order = {9, 2, 30};
        for (int c : order) {
            x.car(c, 0, 0, 2);
        }
        due.is("WAITING ones are not on it", x.lane(0, 0, 0), -2);
        x.run(15);
        for (int k = 0; k < 3; k++) {
            due.is("lane 0, " + k, x.lane(0, 0, k), order[k]);
        }
        due.is("no fourth", x.lane(0, 0, 3), -2);
        due.is("none on lane 1", x.lane(0, 1, 0), -2);
        int[][] bad = {{0, 0, -1}, {0, 0, 32}, {0, 0, MIN}, {0, 0, MAX}, {0, -1, 0}, {0, 2, 0}, {0, MIN, 0},
            {0, MAX, 0}, {-1, 0, 0}, {16, 0, 0}, {3, 0, 0}, {MIN, 0, 0}, {MAX, 0, 0}};
        for (int[] b : bad) {
            due.is("lane " + b[0] + " " + b[1] + " " + b[2], x.lane(b[0], b[1], b[2]), -2);
        }
        x.remove(2);
        due.is("one less", x.lane(0, 0, 1), 30);
        x.edge(4, 1, 20, Roads.shape(1, 1, 0));
        due.is("lane 1 of one", x.lane(4, 1, 0), -2);
    }

    private static void roadOfEachKind() {
        RoadDesk x = Roads.line(2, 25, 61, 60);
        int[] first = {0, 0, 6, 1, 0, 1};
        for (int what = 0; what < 6; what++) {
            due.is("at first: road(1, " + what + ")", x.road(1, what), first[what]);
        }
        x.weight(1, 9);
        x.weight(1, -1);
        x.phase(2, 0, 65535 - 2, Roads.LONG);
        x.car(0, 0, 1, 1);
        x.car(1, 0, 1, 1);
        int[] closed = {0, 2, 15, 0, 0, 0};
        for (int what = 0; what < 6; what++) {
            due.is("CLOSED: road(1, " + what + ")", x.road(1, what), closed[what]);
        }
        x.weight(1, 2);
        x.phase(2, 0, 2, Roads.LONG);
        x.run(1);
        int[] open = {1, 1, 8, 1, 1, 1};
        for (int what = 0; what < 6; what++) {
            due.is("OPEN: road(1, " + what + ")", x.road(1, what), open[what]);
        }
        x.run(20);
        due.is("both came ON", x.road(1, 4), 2);
        due.is("ARRIVED", x.road(1, 0), 0);
        x.car(2, 0, 0, 1);
        x.run(12);
        due.is("from another edge, too", x.road(1, 4), 3);
        due.is("from another edge, too", x.road(1, 0), 1);
        due.is("left", x.road(0, 0), 0);
        due.is("came ON that", x.road(0, 4), 1);
        int[] bad = {-1, 6, MIN, MAX};
        for (int b : bad) {
            due.is("road 1 " + b, x.road(1, b), -1);
            due.is("road " + b, x.road(b, 0), -1);
        }
        due.is("road 16", x.road(16, 0), -1);
        due.is("road 3", x.road(3, 5), -1);
    }

    private static void junctionOfEachKind() {
        RoadDesk x = Roads.line(2, 40, 60, 60);
        x.connect(0, 0, 0);
        x.phase(1, 0, 1, 302);
        x.phase(1, 1, 65535, 9901);
        x.run(3);
        x.car(0, 0, 0, 2);
        x.run(2);
        int[] want = {1, 0, 1, 0, 1};
        x.phase(1, 1, 65535, 9903);
        x.run(2);
        for (int what = 0; what < 5; what++) {
            due.is("junction(1, " + what + ")", x.junction(1, what), want[what]);
        }
        x.run(1);
        due.is("older", x.junction(1, 1), 1);
        int[] bad = {-1, 5, MIN, MAX};
        for (int b : bad) {
            due.is("junction 1 " + b, x.junction(1, b), -1);
        }
        int[] none = {-1, 8, MIN, MAX};
        for (int j : none) {
            for (int what = 0; what < 5; what++) {
                due.is("junction " + j + " " + what, x.junction(j, what), -1);
            }
        }
        due.is("none: phase", x.junction(7, 0), -2);
        due.is("none: age", x.junction(7, 1), 0);
        due.is("none: held", x.junction(7, 2), 0);
        due.is("none: edge", x.junction(7, 3), -2);
        due.is("none: lane", x.junction(7, 4), -2);
    }

    private static void wayByLeastCost() {
        // from edge 0 to edge 3 by edge 1, cost 20, or by edges 4 and 5, cost 7 each
        RoadDesk x = new RoadDesk();
        x.edge(0, 1, 50, Roads.shape(1, 10, 0));
        x.edge(1, 10, 200, Roads.shape(1, 10, 0));
        x.edge(3, 19, 50, Roads.shape(1, 10, 0));
        x.edge(4, 12, 70, Roads.shape(1, 10, 0));
        x.edge(5, 34, 70, Roads.shape(1, 10, 0));
        due.is("DISTANCE", x.way(0, 3, 0), 19);
        due.is("NEXT", x.way(0, 3, 1), 4);
        x.weight(5, 7);
        due.is("26 by edge 4, 25 by edge 1", x.way(0, 3, 0), 25);
        due.is("NEXT", x.way(0, 3, 1), 1);
        x.weight(1, -1);
        due.is("CLOSED: by edge 4", x.way(0, 3, 0), 26);
        due.is("from the CLOSED one", x.way(1, 3, 0), 5);
        x.weight(3, -1);
        due.is("its GOAL CLOSED", x.way(0, 3, 0), -2);
        due.is("its GOAL CLOSED", x.way(0, 3, 1), -2);
        x.weight(3, 0);
        x.weight(4, -1);
        due.is("no way", x.way(0, 3, 0), -2);
        due.is("no NEXT", x.way(0, 3, 1), -2);
        due.is("against the way", x.way(3, 0, 0), -2);
        due.is("itself", x.way(3, 3, 0), 0);
        due.is("itself: no NEXT", x.way(3, 3, 1), -2);
    }

    private static void wayByLeastEdge() {
        RoadDesk x = new RoadDesk();
        x.edge(9, 1, 50, Roads.shape(2, 10, 0));
        x.edge(7, 10, 50, Roads.shape(1, 10, 0));
        x.edge(2, 11, 50, Roads.shape(1, 10, 0));
        x.edge(5, 20, 50, Roads.shape(1, 10, 0));
        x.edge(8, 28, 50, Roads.shape(1, 10, 0));
        x.edge(1, 37, 50, Roads.shape(1, 10, 0));
        due.is("DISTANCE", x.way(9, 1, 0), 15);
        due.is("the lesser of 2 and 7", x.way(9, 1, 1), 2);
        x.connect(9, 0, 128);
        due.is("by lane 1", x.way(9, 1, 1), 2);
        x.weight(8, 1);
        due.is("7 is less by 1", x.way(9, 1, 1), 7);
    }

    private static void wayOverLongRoads() {
        // fifteen edges to and fro between junctions 0 .. 7 and 7 .. 0, numbered against the way, and one more
        RoadDesk x = new RoadDesk();
        for (int i = 0; i < 7; i++) {
            x.edge(15 - i, 8 * i + i + 1, 200, Roads.shape(1, 1, 0));
            x.weight(15 - i, 1000);
        }
        for (int i = 0; i < 7; i++) {
            x.edge(8 - i, 8 * (7 - i) + 6 - i, 200, Roads.shape(1, 1, 0));
            x.weight(8 - i, 1000);
        }
        for (int e = 15; e > 1; e--) {
            if (e > 2) {
                x.connect(e, 0, 1 << e - 1);
            }
        }
        due.is("fourteen edges: thirteen costs", x.way(15, 2, 0), 13 * 1200);
        due.is("NEXT", x.way(15, 2, 1), 14);
        due.is("back", x.way(2, 15, 0), 1200);
    }

    private static void wayWrongOnes() {
        RoadDesk x = Roads.line(2, 50, 50, 50);
        int[] bad = {-1, 3, 16, MIN, MAX};
        for (int b : bad) {
            due.is("from " + b, x.way(b, 0, 0), -1);
            due.is("to " + b, x.way(0, b, 0), -1);
            due.is("both " + b, x.way(b, b, 1), -1);
        }
        int[] whats = {-1, 2, MIN, MAX};
        for (int what : whats) {
            due.is("what " + what, x.way(0, 1, what), -1);
        }
    }

    private static void totals(String when, RoadDesk x, int... want) {
        for (int what = 0; what < 7; what++) {
            due.is(when + ": total " + what, x.total(what), want[what]);
        }
    }

    private static void totalOfEachKind() {
        RoadDesk x = Roads.line(2, 25, 60, 60);
        x.connect(0, 0, 0);
        x.car(0, 0, 0, 1);
        x.run(1);
        totals("came ON", x, 1, 1, 0, 0, 0, 0, 0);
        x.run(1);
        totals("GRANTED", x, 2, 1, 0, 0, 1, 0, 0);
        // FRONT 31 - 25 on edge 1 after step 8, 60 after step 17: beyond it in step 18
        x.run(15);
        totals("before the end", x, 17, 1, 0, 0, 1, 0, 0);
        x.run(1);
        totals("ARRIVED", x, 18, 1, 1, 0, 1, 0, 17);
        x.car(0, 0, 0, 0);
        x.run(2);
        x.remove(0);
        totals("removed", x, 20, 2, 1, 0, 1, 0, 17);
        x.connect(0, 0, 2);
        x.car(4, 0, 0, 1);
        x.run(1);
        x.connect(0, 0, 0);
        x.run(1);
        totals("changed lanes", x, 22, 3, 1, 1, 2, 0, 17);
        int[] bad = {-1, 7, MIN, MAX};
        for (int b : bad) {
            due.is("total " + b, x.total(b), -1);
        }
    }
}
