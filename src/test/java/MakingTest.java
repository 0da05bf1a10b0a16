import java.util.function.ToIntFunction;

/** Promises 1 to 6: a new object, edge, connect, weight, phase, type. */
public final class MakingTest {
    private static final Due due = new Due("MakingTest");
    private static final int MIN = Integer.MIN_VALUE, MAX = Integer.MAX_VALUE;
    private static final int GOOD = Roads.shape(1, 5, 0);

    public static void main(String[] args) {
        constants();
        newObjectAnswers();
        newObjectRefuses();
        newObjectRuns();
        newObjectsShareNothing();
        edgeTakesTheLeastAndTheGreatest();
        edgeRefusesNumbers();
        edgeRefusesWithCars();
        edgeMadeAnewIsAsAtFirst();
        edgeMadeAnewWithOtherLanes();
        edgeLeavesTheRest();
        connectTakesTheLeastAndTheGreatest();
        connectRefuses();
        connectOfOneLane();
        weightTakesTheLeastAndTheGreatest();
        weightRefuses();
        weightOpensAndCloses();
        phaseTakesTheLeastAndTheGreatest();
        phaseRefuses();
        phaseRefusesBeyondTheLast();
        phasesGo();
        phaseIsChanged();
        phaseZeroIsAtHand();
        typeTakesTheLeastAndTheGreatest();
        typeRefusesNumbers();
        typeRefusesWithCars();
        typeIsSoFromNowOn();
        due.end();
    }

    private static void refused(String call, ToIntFunction<RoadDesk> asked) {
        Twins.check(due, call, Twins::quiet, asked, 0);
    }

    // ---- promise 1

    private static void constants() {
        due.says("BAD = -1, NONE = -2");
        due.is("BAD", RoadDesk.BAD, -1);
        due.is("NONE", RoadDesk.NONE, -2);
    }

    private static void newObjectAnswers() {
        due.says("No edges, no phases, all cars NONE");
        RoadDesk x = new RoadDesk();
        for (int e = 0; e < 16; e++) {
            for (int what = 0; what < 6; what++) {
                due.is("road " + e + " " + what, x.road(e, what), -1);
            }
            due.is("way " + e, x.way(e, e, 0), -1);
            due.is("way " + e, x.way(e, (e + 1) % 16, 1), -1);
            due.is("lane " + e + " 0", x.lane(e, 0, 0), -2);
            due.is("lane " + e + " 1", x.lane(e, 1, 0), -2);
        }
        int[] junction = {-2, 0, 0, -2, -2};
        for (int j = 0; j < 8; j++) {
            for (int what = 0; what < 5; what++) {
                due.is("junction " + j + " " + what, x.junction(j, what), junction[what]);
            }
        }
        for (int what = 0; what < 7; what++) {
            due.is("total " + what, x.total(what), 0);
        }
        RoadDesk y = new RoadDesk();
        for (int c = 0; c < 32; c++) {
            for (int what = 0; what < 8; what++) {
                due.is("of " + c + " " + what, y.of(c, what), what == 0 ? 0 : -2);
            }
        }
    }

    private static void newObjectRefuses() {
        due.says("No edges, .. all cars NONE");
        RoadDesk x = new RoadDesk();
        for (int e = 0; e < 16; e++) {
            due.no("connect " + e, x.connect(e, 0, 0));
            due.no("weight " + e, x.weight(e, 0));
            due.no("weight " + e, x.weight(e, -1));
            due.no("car for " + e, x.car(e, 0, e, e));
        }
        for (int c = 0; c < 32; c++) {
            due.no("aim " + c, x.aim(c, 0));
            due.no("remove " + c, x.remove(c));
        }
        for (int j = 0; j < 8; j++) {
            for (int k = 1; k <= 4; k++) {
                due.no("phase " + j + " " + k, x.phase(j, k, 0, 101));
                due.no("phase " + j + " " + k, x.phase(j, k, 0, 0));
            }
        }
        due.is("still none", x.junction(0, 0), -2);
    }

    private static void newObjectRuns() {
        due.says("No edges, no phases, all cars NONE");
        RoadDesk x = new RoadDesk();
        due.is("run", x.run(20), 20);
        due.is("STEPS", x.total(0), 20);
        for (int what = 1; what < 7; what++) {
            due.is("total " + what, x.total(what), 0);
        }
        for (int j = 0; j < 8; j++) {
            due.is("phase", x.junction(j, 0), -2);
            due.is("age", x.junction(j, 1), 0);
        }
        due.yes("an edge then", x.edge(0, 1, 20, GOOD));
    }

    private static void newObjectsShareNothing() {
        due.says("No edges, no phases, all cars NONE");
        RoadDesk one = Twins.busy();
        RoadDesk x = new RoadDesk();
        due.is("road", x.road(0, 0), -1);
        due.is("phase", x.junction(1, 0), -2);
        due.is("car", x.of(0, 0), 0);
        due.is("STEPS", x.total(0), 0);
        x.edge(0, 1, 200, Roads.shape(1, 12, 0));
        for (int t = 0; t < 4; t++) {
            x.car(t, t, 0, 0);
        }
        x.run(1);
        due.at("type as at first", x, 0, 0, 0, 4, 0);
        Twins.compare(due, "the other one", one, Twins.busy());
    }

    // ---- promise 2

    private static void edgeTakesTheLeastAndTheGreatest() {
        due.says("Edge e leads from junction ends / 8 to ends % 8, with this LENGTH; shape is ..");
        RoadDesk x = new RoadDesk();
        due.yes("the least numbers", x.edge(0, 1, 20, Roads.shape(1, 1, 0)));
        due.is("COST 20 over 1", x.road(0, 2), 20);
        due.yes("the greatest numbers", x.edge(15, 62, 200, Roads.shape(2, 12, 3)));
        due.is("COST 200 over 12", x.road(15, 2), 17);
        due.yes("from 7 to 0", x.edge(3, 56, 20, GOOD));
        due.yes("from 0 to 7", x.edge(4, 7, 20, GOOD));
        due.is("there and back", x.way(3, 4, 1), 4);
        due.is("there and back", x.way(4, 3, 1), 3);
    }

    private static void edgeRefusesNumbers() {
        due.says("False if a number is not as said");
        int[][] bad = {
            {-1, 1, 50, GOOD}, {16, 1, 50, GOOD}, {MIN, 1, 50, GOOD}, {MAX, 1, 50, GOOD},
            {0, -1, 50, GOOD}, {0, 64, 50, GOOD}, {0, 65, 50, GOOD}, {0, MIN, 50, GOOD}, {0, MAX, 50, GOOD},
            {0, -7, 50, GOOD}, {0, 0, 50, GOOD}, {0, 9, 50, GOOD}, {0, 63, 50, GOOD},
            {0, 1, 19, GOOD}, {0, 1, 201, GOOD}, {0, 1, 0, GOOD}, {0, 1, -20, GOOD}, {0, 1, MIN, GOOD},
            {0, 1, MAX, GOOD}, {0, 1, 50, Roads.shape(0, 5, 0)}, {0, 1, 50, Roads.shape(3, 5, 0)},
            {0, 1, 50, Roads.shape(1, 0, 0)}, {0, 1, 50, Roads.shape(1, 13, 0)}, {0, 1, 50, Roads.shape(2, 15, 3)},
            {0, 1, 50, Roads.shape(1, 5, 4)}, {0, 1, 50, Roads.shape(1, 5, -1)}, {0, 1, 50, -1}, {0, 1, 50, 0},
            {0, 1, 50, MIN}, {0, 1, 50, MIN + GOOD}, {0, 1, 50, MAX}, {4, 64, 50, GOOD}, {4, 1, 19, GOOD},
            {4, 1, 50, 0}, {4, 9, 50, GOOD}, {-1, -1, -1, -1},
        };
        for (int[] b : bad) {
            refused("edge(" + b[0] + ", " + b[1] + ", " + b[2] + ", " + b[3] + ")",
                    x -> Twins.bit(x.edge(b[0], b[1], b[2], b[3])));
        }
    }

    private static void edgeRefusesWithCars() {
        due.says("or a car is not NONE");
        int[] cars = {0, 15, 31};
        for (int c : cars) {
            RoadDesk x = Roads.line(1, 60, 50, 50);
            due.yes("no car", x.edge(3, 8, 50, GOOD));
            x.car(c, 0, 0, 0);
            due.no("a new edge, one WAITING", x.edge(4, 8, 50, GOOD));
            due.no("another edge, one WAITING", x.edge(3, 8, 60, GOOD));
            x.run(1);
            due.no("a new edge, one ON", x.edge(4, 8, 50, GOOD));
            due.no("its edge, one ON", x.edge(0, 1, 50, GOOD));
            due.is("not there", x.road(4, 0), -1);
            due.is("as it was", x.road(3, 2), 10);
            x.remove(c);
            due.yes("after remove", x.edge(4, 8, 50, GOOD));
            x.edge(0, 1, 20, GOOD);
            x.car(c, 0, 0, 0);
            x.run(20);
            due.is("ARRIVED", x.of(c, 0), 0);
            due.yes("after it ARRIVED", x.edge(0, 1, 50, GOOD));
        }
        for (int e = 0; e < 5; e++) {
            int edge = e;
            Twins.check(due, "edge " + e + " with cars", Twins::busy,
                    x -> Twins.bit(x.edge(edge, 8 * edge + 5, 33, Roads.shape(2, 3, 1))), 0);
        }
    }

    private static void edgeMadeAnewIsAsAtFirst() {
        due.says("MASKS, WEIGHT as at first, OPEN");
        RoadDesk x = Roads.line(2, 20, 20, 20);
        x.connect(0, 0, 0);
        x.connect(0, 1, 0);
        x.weight(0, 7);
        x.car(0, 0, 0, 0);
        x.run(1);
        x.remove(0);
        x.weight(0, -1);
        due.is("came ON", x.road(0, 4), 1);
        due.is("no way", x.way(0, 1, 0), -2);
        due.yes("anew", x.edge(0, 1, 30, Roads.shape(2, 10, 0)));
        due.is("MASKS", x.way(0, 1, 0), 2);
        due.is("WEIGHT", x.road(0, 2), 3);
        due.is("OPEN", x.road(0, 5), 1);
        due.is("how many came ON since it was made", x.road(0, 4), 0);
        x.connect(0, 0, 0);
        due.is("MASK of lane 1", x.way(0, 1, 0), 2);
        x.connect(0, 0, 65535);
        x.connect(0, 1, 0);
        due.is("MASK of lane 0", x.way(0, 1, 0), 2);
        due.yes("anew with other ends", x.edge(1, 24, 20, GOOD));
        due.is("it does not begin there any more", x.way(0, 1, 0), -2);
        due.is("but here", x.way(2, 1, 1), 1);
        due.yes("anew with the same numbers", x.edge(1, 24, 20, GOOD));
        due.is("and is there", x.way(2, 1, 1), 1);
    }

    private static void edgeMadeAnewWithOtherLanes() {
        due.says("shape is LANES, ..; MASKS .. as at first");
        RoadDesk x = Roads.line(2, 20, 20, 20);
        x.connect(0, 1, 0);
        x.edge(0, 1, 20, GOOD);
        due.no("lane 1 is gone", x.connect(0, 1, 65535));
        x.connect(0, 0, 0);
        due.is("and does not lead", x.way(0, 1, 0), -2);
        x.edge(0, 1, 20, Roads.shape(2, 5, 0));
        due.yes("lane 1 is there", x.connect(0, 0, 0));
        due.is("and leads", x.way(0, 1, 1), 1);
        x.car(0, 0, 0, 1);
        x.run(1);
        due.at("on lane 1", x, 0, 0, 1, 4, 0);
    }

    private static void edgeLeavesTheRest() {
        due.says("Edge e leads ..");
        RoadDesk x = Twins.quiet();
        RoadDesk y = Twins.quiet();
        x.edge(9, 40, 100, Roads.shape(2, 1, 3));
        Twins.compare(due, "the others, as they were", x, y);
        x.edge(0, 1, 60, Roads.shape(2, 12, 0));
        due.is("phases stay", x.junction(1, 0), y.junction(1, 0));
        due.is("STEPS stay", x.total(0), 4);
        due.is("WEIGHT of another", x.road(1, 2), 7);
    }

    // ---- promise 3

    private static void connectTakesTheLeastAndTheGreatest() {
        due.says("Lane l of an edge gets this MASK");
        for (int e = 0; e < 16; e += 15) {
            RoadDesk x = new RoadDesk();
            x.edge(e, 1, 50, Roads.shape(2, 5, 0));
            x.edge(7, 10, 50, GOOD);
            for (int l = 0; l < 2; l++) {
                due.yes("the least", x.connect(e, l, 0));
            }
            due.is("none", x.way(e, 7, 0), -2);
            for (int l = 0; l < 2; l++) {
                due.yes("the greatest", x.connect(e, l, 65535));
                due.is("all", x.way(e, 7, 0), 10);
                x.connect(e, l, 0);
            }
        }
        RoadDesk y = Twins.busy();
        due.yes("with cars there", y.connect(0, 0, 6));
    }

    private static void connectRefuses() {
        due.says("False if there is none, or it is outside 0..65535");
        int[][] bad = {{-1, 0, 1}, {16, 0, 1}, {4, 0, 1}, {15, 0, 1}, {MIN, 0, 1}, {MAX, 0, 1}, {0, -1, 1}, {0, 2, 1},
            {1, 1, 1}, {3, 1, 1}, {0, MIN, 1}, {0, MAX, 1}, {0, 0, -1}, {0, 0, 65536}, {0, 1, -1}, {0, 1, 65536},
            {0, 0, MIN}, {0, 0, MAX}, {MIN, MIN, MIN}, {MAX, MAX, MAX}, {-1, 2, 1}, {-1, 3, 0}};
        for (int[] b : bad) {
            String call = "connect(" + b[0] + ", " + b[1] + ", " + b[2] + ")";
            refused(call, x -> Twins.bit(x.connect(b[0], b[1], b[2])));
            Twins.check(due, call, Twins::busy, x -> Twins.bit(x.connect(b[0], b[1], b[2])), 0);
        }
    }

    private static void connectOfOneLane() {
        due.says("Lane l of an edge gets this MASK");
        RoadDesk x = new RoadDesk();
        x.edge(0, 1, 50, Roads.shape(2, 5, 0));
        x.edge(1, 10, 50, Roads.shape(2, 5, 0));
        x.edge(2, 11, 50, Roads.shape(2, 5, 0));
        x.edge(3, 25, 50, Roads.shape(2, 5, 0));
        x.connect(0, 0, 2);
        due.is("lane 1 still leads to edge 2", x.way(0, 2, 0), 10);
        x.connect(0, 1, 2);
        due.is("neither leads to edge 2", x.way(0, 2, 0), -2);
        due.is("both lead to edge 1", x.way(0, 1, 1), 1);
        x.connect(0, 1, 8);
        due.is("edge 3 does not begin there", x.way(0, 3, 0), -2);
        x.connect(0, 1, 4);
        due.is("by edge 2 to edge 3", x.way(0, 3, 0), 20);
        due.is("other edges as they were", x.way(2, 1, 0), 20);
        x.connect(2, 1, 0);
        due.is("edge 2 by lane 0", x.way(2, 1, 0), 20);
        x.connect(2, 0, 0);
        due.is("edge 2 by none", x.way(2, 1, 0), -2);
    }

    // ---- promise 4

    private static void weightTakesTheLeastAndTheGreatest() {
        due.says("An edge gets the WEIGHT w, 0..1000");
        int[] edges = {0, 15};
        for (int e : edges) {
            RoadDesk x = new RoadDesk();
            x.edge(e, 10, 50, GOOD);
            x.edge(7, 1, 50, GOOD);
            int[] weights = {1000, 0, 1, 999};
            for (int w : weights) {
                due.yes("WEIGHT " + w, x.weight(e, w));
                due.is("COST with " + w, x.road(e, 2), 10 + w);
                due.is("DISTANCE with " + w, x.way(7, e, 0), 10 + w);
                due.is("OPEN with " + w, x.road(e, 5), 1);
                due.is("another one", x.road(7, 2), 10);
            }
        }
        due.yes("with cars there", Twins.busy().weight(0, 1));
    }

    private static void weightRefuses() {
        due.says("False if there is none, or w is not so");
        int[][] bad = {{-1, 0}, {16, 0}, {4, 0}, {15, 0}, {MIN, 0}, {MAX, 0}, {4, -1}, {-1, -1}, {0, -2}, {0, 1001},
            {1, -2}, {1, 1001}, {0, MIN}, {0, MAX}, {0, -1000}, {0, 65536}};
        for (int[] b : bad) {
            String call = "weight(" + b[0] + ", " + b[1] + ")";
            refused(call, x -> Twins.bit(x.weight(b[0], b[1])));
            Twins.check(due, call, Twins::busy, x -> Twins.bit(x.weight(b[0], b[1])), 0);
        }
        RoadDesk x = Roads.line(1, 50, 50, 50);
        x.weight(0, -1);
        due.no("of a CLOSED one", x.weight(0, -2));
        due.no("of a CLOSED one", x.weight(0, 1001));
        due.is("still CLOSED", x.road(0, 5), 0);
    }

    private static void weightOpensAndCloses() {
        due.says("and is OPEN; or, w being -1, is CLOSED (its WEIGHT stays)");
        RoadDesk x = Roads.line(1, 60, 60, 60);
        x.weight(1, 5);
        due.yes("CLOSED", x.weight(1, -1));
        due.is("CLOSED", x.road(1, 5), 0);
        due.is("its WEIGHT stays", x.road(1, 2), 10);
        due.is("no way over it", x.way(0, 2, 0), -2);
        due.is("others are OPEN", x.road(0, 5), 1);
        due.yes("CLOSED again", x.weight(1, -1));
        due.is("CLOSED again", x.road(1, 5), 0);
        due.is("its WEIGHT stays", x.road(1, 2), 10);
        due.yes("OPEN", x.weight(1, 0));
        due.is("OPEN", x.road(1, 5), 1);
        due.is("with the new WEIGHT", x.road(1, 2), 5);
        due.is("a way over it", x.way(0, 2, 0), 10);
        x.weight(1, -1);
        due.yes("OPEN", x.weight(1, 1000));
        due.is("OPEN", x.road(1, 5), 1);
        due.is("with the new WEIGHT", x.road(1, 2), 1005);
    }

    // ---- promise 5

    private static void phaseTakesTheLeastAndTheGreatest() {
        due.says("becomes this set of edges (0..65535), times being LEAST and 100 * MOST, 1 <= LEAST <= MOST <= 99");
        for (int j = 0; j < 8; j += 7) {
            RoadDesk x = new RoadDesk();
            due.yes("the least", x.phase(j, 0, 0, 101));
            due.yes("the greatest", x.phase(j, 1, 65535, 9999));
            due.yes("LEAST 1, MOST 99", x.phase(j, 2, 1, 9901));
            due.yes("the fourth", x.phase(j, 3, 32768, 9998));
            due.is("of another junction", x.junction(j == 0 ? 1 : 6, 0), -2);
        }
        RoadDesk y = new RoadDesk();
        int calls = 0;
        for (int times = -150; times <= 10150; times++) {
            int least = times % 100;
            int most = times / 100;
            boolean taken = times == 0 || times > 0 && least >= 1 && least <= most && most <= 99;
            due.same("times " + times, y.phase(3, 0, 0, times), taken);
            calls++;
            if (calls == 500) {
                y = new RoadDesk();
                calls = 0;
            }
        }
        due.yes("with cars there", Twins.busy().phase(1, 0, 0, 101));
    }

    private static void phaseRefuses() {
        due.says("False if a number is not as said");
        int[][] bad = {{-1, 0, 0, 101}, {8, 0, 0, 101}, {MIN, 0, 0, 101}, {MAX, 0, 0, 101}, {-1, 0, 0, 0},
            {8, 0, 0, 0}, {1, -1, 0, 101}, {1, -1, 0, 0}, {1, MIN, 0, 0}, {1, MAX, 0, 0}, {1, 0, -1, 101},
            {1, 0, 65536, 101}, {1, 0, MIN, 101}, {1, 0, MAX, 101}, {1, 0, -1, 0}, {1, 0, 65536, 0}, {1, 0, 0, 100},
            {1, 0, 0, 9900}, {1, 0, 0, 1}, {1, 0, 0, 99}, {1, 0, 0, 102}, {1, 0, 0, 203}, {1, 0, 0, 9899},
            {1, 0, 0, 10000}, {1, 0, 0, 10001}, {1, 0, 0, 10099}, {1, 0, 0, 10101}, {1, 0, 0, -1}, {1, 0, 0, -101},
            {1, 0, 0, -9999}, {1, 0, 0, MIN}, {1, 0, 0, MAX}, {1, 2, 65536, 101}, {1, 2, 0, 100}};
        for (int[] b : bad) {
            String call = "phase(" + b[0] + ", " + b[1] + ", " + b[2] + ", " + b[3] + ")";
            refused(call, x -> Twins.bit(x.phase(b[0], b[1], b[2], b[3])));
            Twins.check(due, call, Twins::busy, x -> Twins.bit(x.phase(b[0], b[1], b[2], b[3])), 0);
        }
    }

    private static void phaseRefusesBeyondTheLast() {
        due.says("PHASE k, 0..3 and not above its number of phases (with four also times 0 is refused for k 4)");
        RoadDesk x = new RoadDesk();
        for (int count = 0; count <= 4; count++) {
            for (int k = count + 1; k <= 6; k++) {
                due.no(count + " phases: phase " + k, x.phase(2, k, 0, 101));
                due.no(count + " phases: phase " + k + ", times 0", x.phase(2, k, 0, 0));
            }
            due.is(count + " phases", x.junction(2, 0), count == 0 ? -2 : 0);
            due.same(count + " phases: one more", x.phase(2, count, 0, 101), count < 4);
            if (count == 4) {
                due.no("a fifth to go", x.phase(2, 4, 0, 0));
            }
        }
        int[] order = {1, 2, 3, 0, 1};
        for (int k : order) {
            x.run(1);
            due.is("four all the same", x.junction(2, 0), k);
        }
        Twins.check(due, "phase 4 of three", Twins::quiet, y -> Twins.bit(y.phase(1, 4, 0, 101)), 0);
        Twins.check(due, "phase 4 of three, times 0", Twins::quiet, y -> Twins.bit(y.phase(1, 4, 0, 0)), 0);
        Twins.check(due, "phase 1 of none", Twins::quiet, y -> Twins.bit(y.phase(2, 1, 0, 101)), 0);
        Twins.check(due, "phase 1 of none, times 0", Twins::quiet, y -> Twins.bit(y.phase(2, 1, 0, 0)), 0);
    }

    /** A junction 2 with this many phases, each for 1 step. */
    private static RoadDesk phases(int count) {
        RoadDesk x = new RoadDesk();
        x.edge(0, 2, 50, GOOD);
        for (int k = 0; k < count; k++) {
            x.phase(2, k, k == 1 ? 1 : 0, 101);
        }
        return x;
    }

    private static void phasesGo() {
        due.says("or, times being 0, phases from k on go");
        for (int count = 0; count <= 4; count++) {
            for (int k = 0; k <= count && k < 4; k++) {
                RoadDesk x = phases(count);
                due.yes(count + " phases, from " + k + " on", x.phase(2, k, 0, 0));
                due.is(count + " phases, from " + k + " on", x.junction(2, 0), k == 0 ? -2 : 0);
                for (int step = 1; step <= 5; step++) {
                    x.run(1);
                    due.is("step " + step, x.junction(2, 0), k == 0 ? -2 : step % k);
                    due.is("GREEN in step " + step, x.road(0, 3), k == 0 || step % k == 1 ? 1 : 0);
                }
                due.is("age", x.junction(2, 1), 0);
                due.no("one more than the next", x.phase(2, k + 1, 0, 101));
                due.yes("the next", x.phase(2, k, 0, 101));
            }
        }
        RoadDesk x = phases(4);
        due.yes("the set does not matter", x.phase(2, 1, 65535, 0));
        x.run(1);
        due.is("one left", x.junction(2, 0), 0);
        due.is("and its set", x.road(0, 3), 0);
    }

    private static void phaseIsChanged() {
        due.says("PHASE k of a junction .. becomes this set of edges, times being LEAST and 100 * MOST together");
        RoadDesk x = phases(3);
        due.yes("the last", x.phase(2, 2, 1, 202));
        due.yes("the first", x.phase(2, 0, 1, 303));
        int[] order = {0, 0, 1, 2, 2, 0, 0, 0, 1};
        for (int i = 0; i < order.length; i++) {
            x.run(1);
            due.is("still three, step " + (i + 1), x.junction(2, 0), order[i]);
            due.is("GREEN in each", x.road(0, 3), 1);
        }
    }

    private static void phaseZeroIsAtHand() {
        due.says("Phase 0 is at hand then, 0 steps old");
        for (int k = 0; k <= 3; k++) {
            for (int times = 0; times <= 505; times += 505) {
                RoadDesk x = new RoadDesk();
                for (int p = 0; p < 3; p++) {
                    x.phase(2, p, 0, 505);
                }
                x.run(13);
                due.is("before", x.junction(2, 0), 2);
                due.is("before", x.junction(2, 1), 3);
                x.phase(3, 0, 0, Roads.LONG);
                due.is("of another junction", x.junction(2, 1), 3);
                due.yes("phase " + k + " " + times, x.phase(2, k, 0, times));
                due.is("phase " + k + " " + times, x.junction(2, 0), k == 0 && times == 0 ? -2 : 0);
                due.is("age " + k + " " + times, x.junction(2, 1), 0);
                x.run(1);
                due.is("a step later", x.junction(2, 1), k == 0 && times == 0 ? 0 : 1);
            }
        }
    }

    // ---- promise 6

    private static void typeTakesTheLeastAndTheGreatest() {
        due.says("A TYPE is so from now on, shape being SIZE and 10 * DAWDLE together");
        for (int t = 0; t < 4; t += 3) {
            RoadDesk x = Roads.line(1, 200, 50, 50);
            due.yes("the least", x.type(t, 1, 1, 3));
            x.car(0, t, 0, 0);
            x.run(5);
            due.at("the least", x, 0, 0, 0, 7, 1);
            x.remove(0);
            due.yes("the greatest, but DAWDLE", x.type(t, 12, 3, 8));
            x.car(0, t, 0, 0);
            x.run(6);
            due.at("the greatest, but DAWDLE", x, 0, 0, 0, 8 + 3 + 6 + 9 + 12 + 12, 12);
            x.remove(0);
            due.yes("DAWDLE 9", x.type(t, 12, 3, 98));
            due.yes("DAWDLE 9, SIZE 3", x.type(t, 12, 3, 93));
        }
    }

    private static void typeRefusesNumbers() {
        due.says("False if a number is not as said");
        for (int t = 0; t < 4; t++) {
            int[][] bad = {{t, 0, 1, 4}, {t, 13, 1, 4}, {t, -1, 1, 4}, {t, MIN, 1, 4}, {t, MAX, 1, 4}, {t, 6, 0, 4},
                {t, 6, 4, 4}, {t, 6, -1, 4}, {t, 6, MIN, 4}, {t, 6, MAX, 4}, {t, 6, 1, 2}, {t, 6, 1, 9}, {t, 6, 1, 0},
                {t, 6, 1, 10}, {t, 6, 1, 12}, {t, 6, 1, 19}, {t, 6, 1, 99}, {t, 6, 1, 92}, {t, 6, 1, 100},
                {t, 6, 1, 103}, {t, 6, 1, 108}, {t, 6, 1, -1}, {t, 6, 1, -4}, {t, 6, 1, -6}, {t, 6, 1, MIN},
                {t, 6, 1, MAX}, {t - 4, 9, 3, 8}, {t + 4, 9, 3, 8}};
            for (int[] b : bad) {
                refused("type(" + b[0] + ", " + b[1] + ", " + b[2] + ", " + b[3] + ")",
                        x -> Twins.bit(x.type(b[0], b[1], b[2], b[3])));
            }
        }
        refused("type MIN", x -> Twins.bit(x.type(MIN, 9, 3, 8)));
        refused("type MAX", x -> Twins.bit(x.type(MAX, 9, 3, 8)));
    }

    private static void typeRefusesWithCars() {
        due.says("or a car with this type is not NONE");
        for (int t = 0; t < 4; t++) {
            int[] cars = {0, 31};
            for (int c : cars) {
                RoadDesk x = Roads.line(1, 20, 50, 50);
                x.car(c, t, 0, 0);
                for (int other = 0; other < 4; other++) {
                    due.same("type " + other + ", one of " + t + " WAITING", x.type(other, 9, 3, 8), other != t);
                }
                x.run(1);
                due.at("as it was", x, c, 0, 0, 4, 0);
                for (int other = 0; other < 4; other++) {
                    due.same("type " + other + ", one of " + t + " ON", x.type(other, 9, 3, 8), other != t);
                }
                x.run(1);
                due.at("as it was", x, c, 0, 0, 5, 1);
                x.remove(c);
                due.yes("after remove", x.type(t, 6, 1, 4));
                x.car(c, t, 0, 0);
                x.run(10);
                due.is("ARRIVED", x.of(c, 0), 0);
                due.yes("after it ARRIVED", x.type(t, 6, 1, 4));
            }
        }
        for (int t = 0; t < 3; t++) {
            int type = t;
            Twins.check(due, "type " + t + " in use", Twins::busy, x -> Twins.bit(x.type(type, 12, 3, 98)), 0);
        }
    }

    private static void typeIsSoFromNowOn() {
        due.says("A TYPE is so from now on");
        RoadDesk x = Roads.line(1, 200, 50, 50);
        x.type(1, 12, 3, 8);
        x.type(1, 2, 2, 5);
        x.car(0, 1, 0, 0);
        x.car(1, 0, 1, 1);
        x.run(3);
        due.at("the last that was said", x, 0, 0, 0, 5 + 2 + 2, 2);
        due.at("another type as at first", x, 1, 1, 0, 4 + 1 + 2, 2);
    }
}
