/** Promises 1 to 6: a new object, edge, connect, weight, phase, type. */
public final class MakingTest {
    private static final Due due = new Due("MakingTest");
    private static final int MIN = Integer.MIN_VALUE, MAX = Integer.MAX_VALUE;

    public static void main(String[] args) {
        aNewObject();
        edgeTakesItsNumbers();
        edgeRefusesOthers();
        edgeIsMadeAnew();
        connectTakesItsNumbers();
        connectChangesWays();
        weightTakesItsNumbers();
        phaseTakesItsNumbers();
        phaseCountsFromZeroAgain();
        typeTakesItsNumbers();
        typeIsAtFirst();
        due.end();
    }

    private static void aNewObject() {
        due.is("BAD", RoadDesk.BAD, -1);
        due.is("NONE", RoadDesk.NONE, -2);
        RoadDesk other = new RoadDesk();
        other.edge(0, 1, 20, Roads.shape(1, 1, 0));
        other.phase(1, 0, 1, 101);
        other.car(0, 0, 0, 0);
        other.run(3);
        RoadDesk x = new RoadDesk();
        for (int e = 0; e < 16; e++) {
            due.is("new: road", x.road(e, 0), -1);
            due.is("new: way", x.way(e, e, 0), -1);
            due.is("new: lane", x.lane(e, 0, 0), -2);
        }
        for (int c = 0; c < 32; c++) {
            due.is("new: state of " + c, x.of(c, 0), 0);
            for (int what = 1; what <= 7; what++) {
                due.is("new: of " + c + " " + what, x.of(c, what), -2);
            }
        }
        int[] junction = {-2, 0, 0, -2, -2};
        for (int j = 0; j < 8; j++) {
            for (int what = 0; what < 5; what++) {
                due.is("new: junction " + j + " " + what, x.junction(j, what), junction[what]);
            }
        }
        for (int what = 0; what < 7; what++) {
            due.is("new: total " + what, x.total(what), 0);
        }
    }

    private static void edgeTakesItsNumbers() {
        RoadDesk x = new RoadDesk();
        due.yes("least length and limit", x.edge(0, 1, 20, Roads.shape(1, 1, 0)));
        due.is("cost 20 over 1", x.road(0, 2), 20);
        due.yes("greatest numbers", x.edge(15, 62, 200, Roads.shape(2, 12, 3)));
        due.is("cost 200 over 12", x.road(15, 2), 17);
        due.yes("edge 1", x.edge(1, 8, 20, Roads.shape(2, 12, 0)));
        due.is("cost 20 over 12", x.road(1, 2), 2);
        due.yes("edge 2", x.edge(2, 8, 24, Roads.shape(2, 12, 0)));
        due.is("cost 24 over 12", x.road(2, 2), 2);
        due.is("at first OPEN", x.road(1, 5), 1);
        due.yes("lane 1 of two", x.connect(1, 1, 0));
        due.no("lane 1 of one", x.connect(0, 1, 0));
    }

    private static void edgeRefusesOthers() {
        int good = Roads.shape(1, 5, 0);
        int[][] bad = {
            {-1, 1, 50, good}, {16, 1, 50, good}, {MIN, 1, 50, good}, {MAX, 1, 50, good},
            {0, -1, 50, good}, {0, 64, 50, good}, {0, 0, 50, good}, {0, 9, 50, good}, {0, 63, 50, good},
            {0, MIN, 50, good}, {0, MAX, 50, good}, {0, -7, 50, good},
            {0, 1, 19, good}, {0, 1, 201, good}, {0, 1, MIN, good}, {0, 1, MAX, good},
            {0, 1, 50, Roads.shape(0, 5, 0)}, {0, 1, 50, Roads.shape(3, 5, 0)}, {0, 1, 50, Roads.shape(1, 0, 0)},
            {0, 1, 50, Roads.shape(1, 13, 0)}, {0, 1, 50, Roads.shape(1, 15, 3)}, {0, 1, 50, Roads.shape(1, 5, 4)},
            {0, 1, 50, Roads.shape(1, 5, -1)}, {0, 1, 50, -1}, {0, 1, 50, MIN}, {0, 1, 50, MAX}, {0, 1, 50, 0},
        };
        RoadDesk x = new RoadDesk();
        for (int[] b : bad) {
            due.no("edge " + b[0] + " " + b[1] + " " + b[2] + " " + b[3], x.edge(b[0], b[1], b[2], b[3]));
        }
        due.is("still no edge 0", x.road(0, 2), -1);
        x.edge(0, 1, 60, good);
        for (int[] b : bad) {
            x.edge(b[0], b[1], b[2], b[3]);
        }
        due.is("edge 0 as it was", x.road(0, 2), 12);
        x.car(31, 0, 0, 0);
        due.no("edge with a car WAITING", x.edge(1, 8, 50, good));
        x.run(1);
        due.no("edge with a car ON", x.edge(1, 8, 50, good));
        x.remove(31);
        due.yes("edge after remove", x.edge(1, 8, 50, good));
    }

    private static void edgeIsMadeAnew() {
        RoadDesk x = new RoadDesk();
        x.edge(0, 1, 20, Roads.shape(2, 10, 0));
        x.edge(1, 10, 20, Roads.shape(1, 10, 0));
        x.connect(0, 0, 0);
        x.connect(0, 1, 0);
        x.weight(0, 7);
        x.weight(0, -1);
        x.weight(0, 7);
        x.car(0, 0, 0, 0);
        x.run(1);
        due.is("came ON", x.road(0, 4), 1);
        x.remove(0);
        x.weight(0, -1);
        due.is("no way", x.way(0, 1, 0), -2);
        due.yes("anew", x.edge(0, 1, 30, Roads.shape(2, 10, 0)));
        due.is("anew: way", x.way(0, 1, 0), 2);
        due.is("anew: WEIGHT 0", x.road(0, 2), 3);
        due.is("anew: came ON", x.road(0, 4), 0);
        due.is("anew: OPEN", x.road(0, 5), 1);
        x.connect(0, 0, 0);
        due.is("anew: lane 1 leads, too", x.way(0, 1, 0), 2);
        x.connect(1, 0, 0);
        due.yes("anew elsewhere", x.edge(1, 19, 20, Roads.shape(1, 10, 0)));
        due.is("edge 1 does not begin there any more", x.way(0, 1, 0), -2);
        due.is("total stays", x.total(1), 1);
    }

    private static void connectTakesItsNumbers() {
        RoadDesk x = new RoadDesk();
        due.no("no edge", x.connect(0, 0, 1));
        x.edge(0, 1, 50, Roads.shape(1, 5, 0));
        x.edge(3, 1, 50, Roads.shape(2, 5, 0));
        due.yes("least mask", x.connect(0, 0, 0));
        due.yes("greatest mask", x.connect(0, 0, 65535));
        due.yes("lane 1", x.connect(3, 1, 65535));
        int[][] bad = {{-1, 0, 1}, {16, 0, 1}, {1, 0, 1}, {0, -1, 1}, {0, 1, 1}, {3, 2, 1}, {0, 0, -1}, {0, 0, 65536},
            {MIN, MIN, MIN}, {MAX, MAX, MAX}, {0, MIN, 1}, {0, MAX, 1}, {0, 0, MIN}, {0, 0, MAX}};
        for (int[] b : bad) {
            due.no("connect " + b[0] + " " + b[1] + " " + b[2], x.connect(b[0], b[1], b[2]));
        }
    }

    private static void connectChangesWays() {
        RoadDesk x = new RoadDesk();
        x.edge(0, 1, 50, Roads.shape(2, 5, 0));
        x.edge(1, 10, 50, Roads.shape(1, 5, 0));
        x.edge(2, 11, 50, Roads.shape(1, 5, 0));
        x.edge(3, 25, 50, Roads.shape(1, 5, 0));
        due.is("at first all", x.way(0, 2, 0), 10);
        x.connect(0, 0, 2);
        due.is("lane 1 still leads to edge 2", x.way(0, 2, 0), 10);
        x.connect(0, 1, 2);
        due.is("none leads to edge 2", x.way(0, 2, 0), -2);
        due.is("both lead to edge 1", x.way(0, 1, 1), 1);
        x.connect(0, 1, 8);
        due.is("edge 3 does not begin there", x.way(0, 3, 0), -2);
        x.connect(0, 1, 4);
        due.is("by edge 2 to edge 3", x.way(0, 3, 0), 20);
    }

    private static void weightTakesItsNumbers() {
        RoadDesk x = new RoadDesk();
        due.no("no edge", x.weight(0, 1));
        x.edge(0, 1, 50, Roads.shape(1, 5, 0));
        x.edge(1, 10, 50, Roads.shape(1, 5, 0));
        due.yes("greatest", x.weight(1, 1000));
        due.is("cost", x.road(1, 2), 1010);
        due.is("distance", x.way(0, 1, 0), 1010);
        due.yes("least", x.weight(1, 0));
        due.is("cost", x.road(1, 2), 10);
        x.weight(1, 5);
        due.yes("closed", x.weight(1, -1));
        due.is("closed: CLOSED", x.road(1, 5), 0);
        due.is("closed: WEIGHT stays", x.road(1, 2), 15);
        due.is("closed: no way to it", x.way(0, 1, 0), -2);
        due.is("closed: no NEXT edge", x.way(0, 1, 1), -2);
        due.is("closed: from itself", x.way(1, 1, 0), 0);
        int[] bad = {-2, 1001, MIN, MAX};
        for (int w : bad) {
            due.no("weight " + w, x.weight(1, w));
        }
        due.is("refused: still CLOSED", x.road(1, 5), 0);
        due.yes("open again", x.weight(1, 6));
        due.is("open again", x.road(1, 5), 1);
        due.is("open again: cost", x.road(1, 2), 16);
        due.no("edge -1", x.weight(-1, 0));
        due.no("edge 16", x.weight(16, 0));
        due.no("edge MIN", x.weight(MIN, 0));
        due.no("edge MAX", x.weight(MAX, 0));
    }

    private static void phaseTakesItsNumbers() {
        RoadDesk x = new RoadDesk();
        int[][] bad = {{-1, 0, 0, 101}, {8, 0, 0, 101}, {MIN, 0, 0, 101}, {MAX, 0, 0, 101}, {0, -1, 0, 101},
            {0, 1, 0, 101}, {0, 1, 0, 0}, {0, MIN, 0, 0}, {0, MAX, 0, 0}, {0, 0, -1, 101}, {0, 0, 65536, 101},
            {0, 0, -1, 0}, {0, 0, 65536, 0}, {0, 0, 0, 100}, {0, 0, 0, 1}, {0, 0, 0, 99}, {0, 0, 0, 102},
            {0, 0, 0, 9900}, {0, 0, 0, 9899}, {0, 0, 0, 10001}, {0, 0, 0, 10099}, {0, 0, 0, -101}, {0, 0, 0, MIN},
            {0, 0, 0, MAX}};
        for (int[] b : bad) {
            due.no("phase " + b[0] + " " + b[1] + " " + b[2] + " " + b[3], x.phase(b[0], b[1], b[2], b[3]));
        }
        due.is("still none", x.junction(0, 0), -2);
        due.yes("none to go", x.phase(0, 0, 0, 0));
        due.is("still none", x.junction(0, 0), -2);
        due.yes("least times", x.phase(7, 0, 65535, 101));
        due.yes("greatest times", x.phase(7, 1, 0, 9999));
        due.yes("LEAST 1, MOST 99", x.phase(7, 2, 0, 9901));
        due.no("k 4 with three", x.phase(7, 4, 0, 0));
        due.yes("none to go behind the third", x.phase(7, 3, 0, 0));
        due.yes("the fourth", x.phase(7, 3, 0, 202));
        due.no("a fifth", x.phase(7, 4, 0, 101));
        due.no("k 4 with four", x.phase(7, 4, 0, 0));
        due.is("another junction", x.junction(6, 0), -2);
    }

    private static void phaseCountsFromZeroAgain() {
        RoadDesk x = new RoadDesk();
        for (int k = 0; k < 4; k++) {
            x.phase(2, k, 0, 202);
        }
        due.is("first at hand", x.junction(2, 0), 0);
        int[] order = {0, 1, 1, 2, 2, 3, 3, 0, 0, 1};
        for (int step = 0; step < order.length; step++) {
            x.run(1);
            due.is("phase after step " + (step + 1), x.junction(2, 0), order[step]);
            due.is("age after step " + (step + 1), x.junction(2, 1), (step + 1) % 2);
        }
        x.run(1);
        due.is("age", x.junction(2, 1), 1);
        due.yes("phase 2 goes and the last", x.phase(2, 2, 0, 0));
        due.is("first at hand", x.junction(2, 0), 0);
        due.is("0 steps old", x.junction(2, 1), 0);
        int[] two = {0, 1, 1, 0};
        for (int step = 0; step < two.length; step++) {
            x.run(1);
            due.is("of two, after step " + (step + 1), x.junction(2, 0), two[step]);
        }
        x.run(3);
        due.is("the second", x.junction(2, 0), 1);
        due.yes("the second becomes another", x.phase(2, 1, 0, 303));
        due.is("first at hand", x.junction(2, 0), 0);
        due.is("0 steps old", x.junction(2, 1), 0);
        x.run(2);
        due.is("the second", x.junction(2, 0), 1);
        x.run(2);
        due.is("the second for 3", x.junction(2, 0), 1);
        x.run(1);
        due.is("the first for 3", x.junction(2, 0), 0);
        x.run(1);
        due.no("refused", x.phase(2, 3, 0, 303));
        due.is("refused: as old as it was", x.junction(2, 1), 1);
        x.phase(2, 0, 0, 0);
        due.is("all go", x.junction(2, 0), -2);
        due.is("all go: 0", x.junction(2, 1), 0);
        x.run(3);
        due.is("without any: 0", x.junction(2, 1), 0);
    }

    private static void typeTakesItsNumbers() {
        RoadDesk x = new RoadDesk();
        x.edge(0, 1, 100, Roads.shape(1, 12, 0));
        int[][] bad = {{-1, 6, 1, 4}, {4, 6, 1, 4}, {MIN, 6, 1, 4}, {MAX, 6, 1, 4}, {0, 0, 1, 4}, {0, 13, 1, 4},
            {0, MIN, 1, 4}, {0, MAX, 1, 4}, {0, 6, 0, 4}, {0, 6, 4, 4}, {0, 6, MIN, 4}, {0, 6, MAX, 4}, {0, 6, 1, 2},
            {0, 6, 1, 9}, {0, 6, 1, 10}, {0, 6, 1, 99}, {0, 6, 1, 103}, {0, 6, 1, 108}, {0, 6, 1, -5}, {0, 6, 1, -1},
            {0, 6, 1, MIN}, {0, 6, 1, MAX}};
        for (int[] b : bad) {
            due.no("type " + b[0] + " " + b[1] + " " + b[2] + " " + b[3], x.type(b[0], b[1], b[2], b[3]));
        }
        due.yes("least", x.type(3, 1, 1, 3));
        due.yes("greatest", x.type(0, 12, 3, 98));
        due.yes("size 8", x.type(3, 12, 3, 8));
        x.car(5, 3, 0, 0);
        due.no("a car WAITING", x.type(3, 6, 1, 4));
        due.yes("another type", x.type(2, 6, 1, 4));
        x.run(1);
        due.no("a car ON", x.type(3, 6, 1, 4));
        due.at("SIZE", x, 5, 0, 0, 8, 0);
        int[] speed = {3, 6, 9, 12, 12};
        for (int s : speed) {
            x.run(1);
            due.is("ACCEL and TOP", x.of(5, 4), s);
        }
        x.remove(5);
        due.yes("after remove", x.type(3, 6, 1, 4));
    }

    private static void typeIsAtFirst() {
        for (int t = 0; t < 4; t++) {
            RoadDesk x = new RoadDesk();
            x.edge(0, 1, 100, Roads.shape(1, 12, 0));
            x.car(0, t, 0, 0);
            x.run(1);
            int front = 4;
            int[] speed = {0, 1, 2, 3, 4, 5, 6, 6, 6};
            for (int s : speed) {
                front += s;
                due.at("type " + t, x, 0, 0, 0, front, s);
                x.run(1);
            }
        }
    }
}
