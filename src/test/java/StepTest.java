/** Promise 10, run, and what a STEP does: LIGHTS, LANES, CROSSINGS, MOVES, ENTRIES. */
public final class StepTest {
    private static final Due due = new Due("StepTest");

    public static void main(String[] args) {
        runTakesItsNumbers();
        lightsByTimes();
        lightsByCars();
        lightsOnlyWhereEdgesEnd();
        movesUpToTheEnd();
        movesBehindAnother();
        movesByLimits();
        movesSeeAcrossTheJunction();
        lanesForTheNextEdge();
        lanesPastASlowOne();
        lanesOnlyForAGain();
        lanesNotTooSoonAgain();
        lanesNotBeforeGrantedOnes();
        crossingsFromForty();
        crossingsByRank();
        crossingsByNearness();
        crossingsHeldUntilClear();
        crossingsTogether();
        crossingsOutrun();
        crossingsOfOneCarAtTwoJunctions();
        crossingsKeepTheLane();
        crossingsNeedGreenAndALane();
        crossingsNeedRoom();
        entriesNeedRoom();
        entriesByLane();
        entriesNotBeforeGrantedOnes();
        due.end();
    }

    private static void runTakesItsNumbers() {
        RoadDesk x = new RoadDesk();
        int[] bad = {-1, 21, Integer.MIN_VALUE, Integer.MAX_VALUE};
        for (int n : bad) {
            due.is("run " + n, x.run(n), -1);
        }
        due.is("no step yet", x.total(0), 0);
        due.is("run 0", x.run(0), 0);
        due.is("no step yet", x.total(0), 0);
        due.is("run 20", x.run(20), 20);
        due.is("run 1", x.run(1), 1);
        due.is("21 steps", x.total(0), 21);
    }

    private static void lightsByTimes() {
        RoadDesk x = Roads.line(1, 50, 50, 50);
        x.phase(1, 0, 1, 503);
        x.phase(1, 1, 0, 202);
        int[] phase = {0, 0, 1, 1, 0, 0, 0, 1};
        int[] age = {1, 2, 0, 1, 0, 1, 2, 0};
        for (int i = 0; i < phase.length; i++) {
            due.is("GREEN before step " + (i + 1), x.road(0, 3), x.junction(1, 0) == 0 ? 1 : 0);
            x.run(1);
            due.is("phase after step " + (i + 1), x.junction(1, 0), phase[i]);
            due.is("age after step " + (i + 1), x.junction(1, 1), age[i]);
        }
        due.is("no phases where edge 1 ends", x.road(1, 3), 1);
    }

    private static void lightsByCars() {
        // a slow car on its GOAL, at FRONT 4 after step 1, 5 after step 2
        int[] atOnce = {0, 0, 0, 0, 1, 0, 0};
        int[] late = {0, 1, 0, 0, 0, 0, 0, 1, 0};
        for (int length = 34; length <= 35; length++) {
            RoadDesk x = Roads.line(1, length, 50, 50);
            x.type(0, 1, 1, 4);
            x.phase(1, 0, 1, 502);
            x.phase(1, 1, 0, 101);
            x.car(0, 0, 0, 0);
            int[] phase = length == 34 ? atOnce : late;
            for (int i = 0; i < phase.length; i++) {
                x.run(1);
                due.is("length " + length + ", phase after step " + (i + 1), x.junction(1, 0), phase[i]);
            }
        }
        // one that is GRANTED does not keep it
        RoadDesk x = Roads.line(1, 30, 50, 50);
        x.phase(1, 0, 1, 902);
        x.phase(1, 1, 0, 101);
        x.run(2);
        x.car(0, 0, 0, 1);
        x.run(2);
        due.is("GRANTED by the first phase", x.of(0, 5), 1);
        due.is("its age", x.junction(1, 1), 1);
        x.run(1);
        due.is("not kept", x.junction(1, 0), 1);
    }

    private static void lightsOnlyWhereEdgesEnd() {
        // edge 1 is in the phase, but it begins at junction 1, and edge 2 ends there, but isn't in it
        RoadDesk x = Roads.line(1, 30, 30, 30);
        x.edge(2, 25, 30, Roads.shape(1, 12, 0));
        x.phase(1, 0, 2, 902);
        x.phase(1, 1, 0, Roads.LONG);
        x.car(0, 0, 1, 1);
        x.car(1, 0, 2, 2);
        x.run(2);
        due.is("LEAST, and no car of the phase", x.junction(1, 0), 1);
        due.is("not GREEN", x.road(2, 3), 0);
        due.is("GREEN where edge 1 ends", x.road(1, 3), 1);
    }

    private static void movesUpToTheEnd() {
        RoadDesk x = Roads.line(1, 30, 50, 50);
        x.phase(1, 0, 0, Roads.LONG);
        x.car(0, 0, 0, 1);
        int[] front = {4, 5, 7, 10, 14, 19, 24, 28, 30, 30};
        int[] speed = {0, 1, 2, 3, 4, 5, 5, 4, 2, 0};
        for (int i = 0; i < front.length; i++) {
            x.run(1);
            due.at("to the END, step " + (i + 1), x, 0, 0, 0, front[i], speed[i]);
        }
        due.is("no SPEED fell by more than 2", x.total(5), 0);
    }

    private static void movesBehindAnother() {
        RoadDesk x = Roads.line(1, 200, 50, 50);
        x.type(1, 1, 1, 8);
        x.car(0, 1, 0, 0);
        x.car(1, 0, 0, 0);
        x.run(6);
        due.at("slow one", x, 0, 0, 0, 13, 1);
        due.at("came ON behind it", x, 1, 0, 0, 4, 0);
        int[] front = {4, 5, 6, 7};
        int[] speed = {0, 1, 1, 1};
        for (int i = 0; i < front.length; i++) {
            x.run(1);
            due.at("behind it, step " + (7 + i), x, 1, 0, 0, front[i], speed[i]);
        }
        due.yes("the slow one goes", x.remove(0));
        x.run(3);
        due.at("free", x, 1, 0, 0, 16, 4);
        // behind a fast one that stops: its braking counts
        RoadDesk y = Roads.line(1, 60, 50, 50);
        y.type(0, 12, 3, 3);
        y.phase(1, 0, 0, Roads.LONG);
        y.car(0, 0, 0, 1);
        y.car(1, 0, 0, 1);
        int[] lead = {3, 6, 12, 21, 32, 41, 48, 54, 58, 60, 60};
        int[] follow = {-2, -2, 3, 6, 12, 21, 31, 39, 46, 51, 54};
        for (int i = 0; i < lead.length; i++) {
            y.run(1);
            due.is("lead, step " + (i + 1), y.of(0, 3), lead[i]);
            due.is("follow, step " + (i + 1), y.of(1, 3), follow[i]);
        }
        due.is("no SPEED fell by more than 2", y.total(5), 0);
    }

    private static void movesByLimits() {
        // TOP 12 on an edge with LIMIT 12, then LIMIT 3: the SPEED falls by 2 a step
        RoadDesk x = new RoadDesk();
        x.edge(0, 1, 60, Roads.shape(1, 12, 0));
        x.edge(1, 10, 200, Roads.shape(1, 3, 0));
        x.type(2, 12, 3, 3);
        x.car(0, 2, 0, 1);
        x.run(7);
        due.at("before", x, 0, 0, 0, 57, 12);
        int[] front = {9, 19, 27, 33, 37, 40, 43};
        int[] speed = {12, 10, 8, 6, 4, 3, 3};
        for (int i = 0; i < front.length; i++) {
            x.run(1);
            due.at("on the slow edge, step " + i, x, 0, 1, 0, front[i], speed[i]);
        }
        RoadDesk y = new RoadDesk();
        y.edge(0, 1, 60, Roads.shape(1, 2, 0));
        y.type(2, 12, 3, 3);
        y.car(0, 2, 0, 0);
        y.run(3);
        due.at("LIMIT 2", y, 0, 0, 0, 7, 2);
    }

    private static void movesSeeAcrossTheJunction() {
        // car 0 stands at the END of edge 1, on FRONT 20; car 1 comes from edge 0 up to FRONT 20 - 4 - 1
        RoadDesk x = Roads.line(1, 20, 20, 50);
        x.phase(2, 0, 0, Roads.LONG);
        x.car(0, 0, 1, 2);
        x.run(15);
        due.at("stands", x, 0, 1, 0, 20, 0);
        x.car(1, 0, 0, 2);
        x.run(20);
        due.at("behind it", x, 1, 1, 0, 15, 0);
        x.car(2, 0, 0, 2);
        x.run(20);
        due.at("and behind that one", x, 2, 1, 0, 10, 0);
        // alone it goes up to the END of the edge that it is granted
        RoadDesk y = Roads.line(1, 20, 20, 50);
        y.phase(2, 0, 0, Roads.LONG);
        y.car(1, 0, 0, 2);
        y.run(20);
        due.at("at the END", y, 1, 1, 0, 20, 0);
        due.is("no SPEED fell by more than 2", x.total(5) + y.total(5), 0);
    }

    private static void lanesForTheNextEdge() {
        RoadDesk x = Roads.fork(100);
        x.car(0, 0, 0, 1);
        x.car(1, 0, 0, 2);
        x.run(1);
        due.is("lane 0 leads to edge 1", x.of(0, 2), 0);
        x.run(3);
        due.is("lane 1 leads to edge 2", x.of(1, 2), 1);
        x.remove(1);
        x.run(2);
        due.is("stays", x.of(0, 2), 0);
        x.aim(0, 2);
        x.run(1);
        due.is("changes", x.of(0, 2), 1);
        due.is("a change", x.total(3), 1);
        x.weight(2, -1);
        x.run(6);
        due.is("no NEXT edge: stays", x.of(0, 2), 1);
        // beside another at the same FRONT there is no room
        RoadDesk y = Roads.fork(30);
        y.car(0, 0, 0, 1);
        y.run(12);
        y.car(1, 0, 0, 2);
        y.run(12);
        due.is("side by side", y.of(0, 3), y.of(1, 3));
        y.aim(0, 2);
        y.run(3);
        due.is("no room", y.of(0, 2), 0);
        y.remove(1);
        y.run(1);
        due.is("room", y.of(0, 2), 1);
    }

    private static void lanesPastASlowOne() {
        RoadDesk x = Roads.slowOne(6);
        due.at("slow one", x, 0, 0, 0, 8, 1);
        due.at("behind it", x, 1, 0, 0, 4, 0);
        x.run(1);
        due.at("past it", x, 1, 0, 1, 5, 1);
        due.is("a change", x.total(3), 1);
        x.run(10);
        due.is("stays there", x.of(1, 2), 1);
        due.is("the slow one stays", x.of(0, 2), 0);
        // the other lane must lead to the NEXT edge, if it isn't on its GOAL
        RoadDesk y = new RoadDesk();
        y.edge(0, 1, 200, Roads.shape(2, 12, 0));
        y.edge(1, 10, 50, Roads.shape(2, 12, 0));
        y.connect(0, 1, 0);
        y.type(1, 1, 1, 3);
        y.car(0, 1, 0, 1);
        y.car(1, 0, 0, 1);
        y.run(12);
        due.is("no lane that leads", y.of(1, 2), 0);
        y.connect(0, 1, 2);
        y.run(1);
        due.is("a lane that leads", y.of(1, 2), 1);
    }

    private static void lanesOnlyForAGain() {
        // standing on lane 0: FRONT 60, 55 (SIZE 8) and 46; on lane 1 FRONT 60, with SIZE 4 or 3: a GAP of 9 or 10
        for (int size = 4; size >= 3; size--) {
            RoadDesk x = Roads.fork(60);
            x.type(1, 6, 1, 8);
            x.type(2, 6, 1, size);
            x.car(0, 2, 0, 2);
            x.car(1, 0, 0, 1);
            x.car(2, 1, 0, 1);
            x.car(3, 0, 0, 1);
            x.run(20);
            x.run(20);
            due.at("on lane 1", x, 0, 0, 1, 60, 0);
            due.at("first on lane 0", x, 1, 0, 0, 60, 0);
            due.at("second on lane 0", x, 2, 0, 0, 55, 0);
            due.at("third on lane 0", x, 3, 0, 0, 46, 0);
            x.connect(0, 1, 6);
            x.run(1);
            due.is("third, SIZE " + size, x.of(3, 2), size == 3 ? 1 : 0);
            due.is("second", x.of(2, 2), 0);
        }
    }

    private static void lanesNotTooSoonAgain() {
        RoadDesk x = Roads.fork(200);
        x.car(0, 0, 0, 1);
        x.run(3);
        x.aim(0, 2);
        x.run(1);
        due.is("changes in step 4", x.of(0, 2), 1);
        x.aim(0, 1);
        for (int step = 5; step <= 8; step++) {
            x.run(1);
            due.is("not in step " + step, x.of(0, 2), 1);
        }
        x.run(1);
        due.is("in step 9", x.of(0, 2), 0);
        due.is("two changes", x.total(3), 2);
    }

    private static void lanesNotBeforeGrantedOnes() {
        // car 0 is GRANTED lane 1 of edge 1; car 1 there wants to change to lane 1, with none BEHIND it
        RoadDesk x = new RoadDesk();
        x.edge(0, 1, 60, Roads.shape(2, 12, 0));
        x.edge(1, 10, 200, Roads.shape(2, 12, 0));
        x.edge(2, 19, 50, Roads.shape(1, 12, 0));
        x.connect(0, 0, 0);
        x.car(0, 0, 0, 1);
        x.run(9);
        due.is("GRANTED", x.of(0, 5), 1);
        x.car(1, 0, 1, 2);
        x.run(1);
        due.at("ON lane 0, which is granted to none", x, 1, 1, 0, 4, 0);
        x.connect(1, 0, 0);
        x.run(1);
        due.is("not before the GRANTED one", x.of(1, 2), 0);
        x.remove(0);
        x.run(1);
        due.is("changes then", x.of(1, 2), 1);
    }

    private static void crossingsFromForty() {
        for (int length = 44; length <= 45; length++) {
            RoadDesk x = Roads.line(1, length, 50, 50);
            x.car(0, 0, 0, 1);
            x.run(2);
            due.is("END within 40: " + (length - 4), x.of(0, 5), length == 44 ? 1 : -2);
            x.run(1);
            due.is("END within 40 then", x.of(0, 5), 1);
            due.is("granted once", x.total(4), 1);
        }
    }

    private static void crossingsByRank() {
        RoadDesk x = Roads.merge(40, 0, 40, 1);
        x.car(0, 0, 0, 2);
        x.car(1, 0, 1, 2);
        x.run(2);
        due.is("greater RANK", x.of(1, 5), 2);
        due.is("lesser RANK", x.of(0, 5), -2);
        due.is("held by one", x.junction(2, 2), 1);
        due.is("from edge 1", x.junction(2, 3), 1);
        due.is("from lane 0", x.junction(2, 4), 0);
        RoadDesk far = Roads.merge(30, 0, 40, 1);
        far.car(0, 0, 0, 2);
        far.car(1, 0, 1, 2);
        far.run(2);
        due.is("RANK before nearness", far.of(1, 5), 2);
        RoadDesk same = Roads.merge(40, 3, 40, 3);
        same.car(0, 0, 0, 2);
        same.car(1, 0, 1, 2);
        same.run(2);
        due.is("the lesser edge", same.of(0, 5), 2);
        due.is("the greater edge", same.of(1, 5), -2);
    }

    private static void crossingsByNearness() {
        RoadDesk x = Roads.merge(40, 0, 39, 0);
        x.car(0, 0, 0, 2);
        x.car(1, 0, 1, 2);
        x.run(2);
        due.is("nearer END", x.of(1, 5), 2);
        due.is("farther END", x.of(0, 5), -2);
        // of one edge the lesser lane: side by side at its END, until it is GREEN
        RoadDesk y = Roads.fork(30);
        y.car(1, 0, 0, 2);
        y.run(12);
        y.car(0, 0, 0, 1);
        y.run(12);
        due.is("side by side", y.of(0, 3), y.of(1, 3));
        y.phase(1, 0, 1, Roads.LONG);
        y.run(1);
        due.is("the lesser lane is across", y.of(0, 1), 1);
        due.is("the greater lane", y.of(1, 5), -2);
    }

    private static void crossingsHeldUntilClear() {
        // FRONT 19 after step 6, then 25: 5 or 3 on edge 1, where 4 is its SIZE
        RoadDesk x = Roads.line(1, 20, 50, 50);
        x.car(0, 0, 0, 2);
        x.run(6);
        due.is("HELD before", x.junction(1, 2), 1);
        x.run(1);
        due.at("across", x, 0, 1, 0, 5, 6);
        due.is("not HELD any more", x.junction(1, 2), 0);
        RoadDesk just = Roads.line(1, 21, 50, 50);
        just.car(0, 0, 0, 2);
        just.run(7);
        due.is("FRONT of its SIZE", just.of(0, 3), 4);
        due.is("not HELD any more", just.junction(1, 2), 0);
        RoadDesk y = Roads.line(1, 22, 50, 50);
        y.car(0, 0, 0, 2);
        y.run(7);
        due.at("across", y, 0, 1, 0, 3, 6);
        due.is("not GRANTED any more", y.of(0, 5), -2);
        due.is("still HELD", y.junction(1, 2), 1);
        due.is("from edge 0", y.junction(1, 3), 0);
        due.is("from lane 0", y.junction(1, 4), 0);
        y.run(1);
        due.is("not HELD any more", y.junction(1, 2), 0);
        due.is("from none", y.junction(1, 3), -2);
    }

    private static void crossingsTogether() {
        // two on one lane to the same edge hold it together; one to another edge waits
        RoadDesk x = Roads.line(1, 40, 200, 50);
        x.edge(3, 12, 50, Roads.shape(1, 12, 0));
        x.car(0, 0, 0, 1);
        x.car(1, 0, 0, 1);
        x.car(2, 0, 0, 3);
        x.run(5);
        due.is("first GRANTED", x.of(0, 5), 1);
        due.is("second GRANTED", x.of(1, 5), 1);
        due.is("held by two", x.junction(1, 2), 2);
        x.run(4);
        due.is("third is ON", x.of(2, 0), 2);
        due.is("third not GRANTED", x.of(2, 5), -2);
        x.run(4);
        due.at("second is across", x, 1, 1, 0, 3, 6);
        due.is("first does not hold it any more", x.junction(1, 2), 1);
        x.run(1);
        due.is("none holds it", x.junction(1, 2), 0);
        due.is("third not GRANTED", x.of(2, 5), -2);
        x.run(1);
        due.is("third GRANTED", x.of(2, 5), 3);
        due.is("granted", x.total(4), 3);
    }

    private static void crossingsOutrun() {
        // car 0 holds the junction; car 1 behind it asks in step 5, when car 2 on edge 1 has FRONT 5
        int[][] cases = {{40, 0, 40, 1, -2}, {40, 0, 40, 0, -2}, {40, 0, 41, 0, 2}, {40, 0, 45, 0, 2},
            {40, 1, 30, 0, 2}};
        for (int[] k : cases) {
            RoadDesk x = Roads.merge(k[0], k[1], k[2], k[3]);
            x.car(0, 0, 0, 2);
            x.car(1, 0, 0, 2);
            x.run(2);
            x.car(2, 0, 1, 2);
            x.run(3);
            due.is("car 0 GRANTED", x.of(0, 5), 2);
            due.is("car 1, " + k[0] + " " + k[1] + " " + k[2] + " " + k[3], x.of(1, 5), k[4]);
            due.is("car 2", x.of(2, 5), -2);
        }
    }

    private static void crossingsOfOneCarAtTwoJunctions() {
        RoadDesk x = Roads.line(1, 22, 20, 50);
        x.type(1, 6, 1, 8);
        x.car(0, 1, 0, 2);
        x.run(6);
        due.at("just across", x, 0, 1, 0, 1, 5);
        due.is("holds the first", x.junction(1, 2), 1);
        due.is("not the second", x.junction(2, 2), 0);
        x.run(1);
        due.at("on", x, 0, 1, 0, 7, 6);
        due.is("GRANTED the next", x.of(0, 5), 2);
        due.is("holds the first", x.junction(1, 2), 1);
        due.is("from edge 0", x.junction(1, 3), 0);
        due.is("holds the second", x.junction(2, 2), 1);
        due.is("from edge 1", x.junction(2, 3), 1);
        x.run(1);
        due.is("not the first", x.junction(1, 2), 0);
        due.is("still the second", x.junction(2, 2), 1);
    }

    private static void crossingsKeepTheLane() {
        RoadDesk x = Roads.line(2, 20, 50, 50);
        x.edge(2, 19, 50, Roads.shape(1, 12, 0));
        x.connect(0, 0, 0);
        x.car(0, 0, 0, 2);
        x.run(2);
        due.is("from lane 1", x.junction(1, 4), 1);
        x.run(5);
        due.at("lane 1 again", x, 0, 1, 1, 5, 6);
        x.run(8);
        due.is("edge 2 has just lane 0", x.of(0, 1), 2);
        due.is("edge 2 has just lane 0", x.of(0, 2), 0);
    }

    private static void crossingsNeedGreenAndALane() {
        RoadDesk x = Roads.line(1, 30, 50, 50);
        x.phase(1, 0, 2, Roads.LONG);
        x.car(0, 0, 0, 1);
        x.run(5);
        due.is("not GREEN", x.of(0, 5), -2);
        x.phase(1, 0, 1, Roads.LONG);
        x.run(1);
        due.is("GREEN", x.of(0, 5), 1);
        // its lane does not lead to its NEXT edge, and there is no room to change
        RoadDesk y = Roads.fork(30);
        y.car(0, 0, 0, 1);
        y.run(12);
        y.car(1, 0, 0, 2);
        y.run(12);
        y.aim(0, 2);
        y.phase(1, 0, 0, 0);
        y.run(1);
        due.is("lane 1 leads to edge 2: across", y.of(1, 1), 2);
        due.is("lane 0 does not", y.of(0, 5), -2);
        // on its GOAL none asks
        RoadDesk z = Roads.line(1, 30, 50, 50);
        z.car(0, 0, 0, 0);
        z.run(7);
        due.is("on its GOAL", z.total(4), 0);
    }

    private static void crossingsNeedRoom() {
        // the lane beyond is full up to its beginning: FRONT 20, 15, 10, 5 of standing cars
        RoadDesk x = Roads.line(1, 30, 20, 50);
        x.phase(2, 0, 0, Roads.LONG);
        for (int c = 0; c < 5; c++) {
            x.car(c, 0, 1, 2);
            x.run(20);
        }
        due.at("last on edge 1", x, 3, 1, 0, 5, 0);
        due.is("no room for another", x.of(4, 0), 1);
        x.remove(4);
        x.car(5, 0, 0, 2);
        x.run(20);
        due.at("up to the one beyond", x, 5, 0, 0, 30, 0);
        due.is("GRANTED all the same, as it can stop", x.of(5, 5), 1);
        // SIZE 8 with FRONT 5 beyond stands 4 into edge 0
        RoadDesk y = Roads.line(1, 30, 20, 50);
        y.type(1, 6, 1, 8);
        y.phase(2, 0, 0, Roads.LONG);
        y.car(0, 0, 1, 2);
        y.run(20);
        y.car(1, 0, 1, 2);
        y.run(20);
        y.car(2, 0, 1, 2);
        y.run(20);
        y.car(3, 1, 0, 2);
        y.run(20);
        due.at("from edge 0 onto edge 1", y, 3, 1, 0, 5, 0);
        due.is("HELD on, FRONT below its SIZE", y.junction(1, 2), 1);
        y.phase(1, 0, 0, Roads.LONG);
        y.car(4, 0, 0, 2);
        y.run(20);
        due.at("at the END", y, 4, 0, 0, 30, 0);
        y.phase(1, 0, 0, 0);
        y.run(5);
        due.is("the gap is below 0", y.of(4, 5), -2);
        y.remove(3);
        y.run(1);
        due.is("room again: across", y.of(4, 1), 1);
    }

    private static void entriesNeedRoom() {
        // FRONT 4, 5, 7, 10: 10 - 4 - 1 is not below 4 (and 5), but below 6
        for (int size = 4; size <= 6; size++) {
            RoadDesk x = Roads.line(1, 50, 50, 50);
            x.type(1, 6, 1, size);
            x.car(0, 0, 0, 0);
            x.car(1, 1, 0, 0);
            x.run(3);
            due.is("FRONT 7", x.of(1, 0), 1);
            x.run(1);
            due.is("FRONT 10, SIZE " + size, x.of(1, 0), size < 6 ? 2 : 1);
            due.is("came ON", x.total(1), size < 6 ? 2 : 1);
            x.run(1);
            due.is("FRONT 14", x.of(1, 0), 2);
        }
        RoadDesk x = Roads.line(1, 50, 50, 50);
        x.weight(0, -1);
        x.car(0, 0, 0, 1);
        x.run(5);
        due.is("CLOSED", x.of(0, 0), 1);
        x.weight(0, 0);
        x.run(1);
        due.is("OPEN", x.of(0, 0), 2);
        x.weight(0, -1);
        x.run(12);
        due.is("a CLOSED edge can be left", x.of(0, 1), 1);
    }

    private static void entriesByLane() {
        RoadDesk x = Roads.line(2, 50, 50, 50);
        x.car(0, 0, 0, 0);
        x.car(1, 0, 0, 1);
        x.run(2);
        due.is("lane 0 on its GOAL", x.of(0, 2), 0);
        due.is("just the least lane that leads is looked at", x.of(1, 0), 1);
        x.connect(0, 0, 0);
        x.run(1);
        due.is("lane 1 is it now", x.of(1, 2), 1);
        x.car(2, 0, 0, 0);
        x.run(3);
        due.is("lane 0 on its GOAL, though it leads nowhere", x.of(2, 2), 0);
        x.car(3, 0, 2, 1);
        x.run(5);
        due.is("no NEXT edge", x.of(3, 0), 1);
    }

    private static void entriesNotBeforeGrantedOnes() {
        RoadDesk x = Roads.line(1, 30, 50, 50);
        x.car(0, 0, 0, 2);
        x.run(2);
        due.is("GRANTED edge 1", x.of(0, 5), 1);
        x.car(1, 0, 1, 2);
        x.run(3);
        due.is("waits", x.of(1, 0), 1);
        x.run(3);
        due.at("across", x, 0, 1, 0, 1, 6);
        due.is("no room yet", x.of(1, 0), 1);
        x.run(1);
        due.is("FRONT 7", x.of(1, 0), 1);
        x.run(1);
        due.is("FRONT 13", x.of(1, 0), 2);
    }
}
