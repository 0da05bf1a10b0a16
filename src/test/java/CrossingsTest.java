import java.util.function.Supplier;

/** A STEP's CROSSINGS. */
public final class CrossingsTest {
    private static final Due due = new Due("CrossingsTest");

    public static void main(String[] args) {
        heldFromTheGrantOn();
        heldUntilClear();
        heldUntilNotOnAnyMore();
        heldByNoneThatCameOn();
        heldByACarAtTwoJunctions();
        firstThatCan();
        theOwnLaneThere();
        andSoOn();
        asksWhereItsEdgeEnds();
        asksIfGreen();
        asksNotOnItsGoal();
        asksFromForty();
        asksOnce();
        grantedItStaysSo();
        asksIfItsLaneLeads();
        asksBehindNone();
        byRank();
        byNearerEnd();
        byLesserEdge();
        byLesserLane();
        canIfSafe();
        canIfAheadOnItsLaneIsSafe();
        heldByNoneOfAnotherLane();
        heldToAnotherEdge();
        heldByOneThatHasChangedLanes();
        noneThatAsksStandsBefore();
        onesThatDoNotAskDoNotMatter();
        crossingsBeforeMoves();
        due.end();
    }

    private static void grant(String when, RoadDesk x, int c, int edge) {
        due.is(when + ": GRANTED car " + c, x.of(c, 5), edge);
    }

    private static void held(String when, RoadDesk x, int j, int cars, int edge, int lane) {
        due.is(when + ": HOLD " + j, x.junction(j, 2), cars);
        due.is(when + ": edge they came from", x.junction(j, 3), edge);
        due.is(when + ": lane they came from", x.junction(j, 4), lane);
    }

    /** Edges 0 and 1 to junction 2, edges 2 and 3 on from there. */
    private static RoadDesk cross(int first, int rank, int second, int otherRank) {
        RoadDesk x = Roads.merge(first, rank, second, otherRank);
        x.edge(3, 20, 50, Roads.shape(1, 12, 0));
        return x;
    }

    private static void heldFromTheGrantOn() {
        due.says("a junction is HELD by cars GRANTED an edge from there");
        RoadDesk x = Roads.line(1, 50, 50, 50);
        x.car(0, 0, 0, 1);
        x.run(4);
        held("END 43 off", x, 1, 0, -2, -2);
        grant("END 43 off", x, 0, -2);
        x.run(1);
        held("END 40 off", x, 1, 1, 0, 0);
        grant("END 40 off", x, 0, 1);
        held("elsewhere", x, 0, 0, -2, -2);
        held("elsewhere", x, 2, 0, -2, -2);
    }

    private static void heldUntilClear() {
        due.says("until they have a FRONT of their SIZE or more on that");
        // FRONT 19 after step 6 and 25 after step 7, for SIZE 4: beyond LENGTH 24, 22, 21, 20 by 1, 3, 4, 5
        int[][] cases = {{24, 1}, {22, 1}, {21, 0}, {20, 0}};
        for (int[] k : cases) {
            RoadDesk x = Roads.line(1, k[0], 50, 50);
            x.car(0, 0, 0, 2);
            x.run(6);
            held("LENGTH " + k[0] + ", before", x, 1, 1, 0, 0);
            x.run(1);
            due.at("LENGTH " + k[0], x, 0, 1, 0, 25 - k[0], 6);
            held("LENGTH " + k[0] + ", across", x, 1, k[1], k[1] == 1 ? 0 : -2, k[1] == 1 ? 0 : -2);
            grant("LENGTH " + k[0] + ", across", x, 0, -2);
            held("where it came from", x, 0, 0, -2, -2);
            held("where it goes to", x, 2, 0, -2, -2);
            x.run(1);
            held("LENGTH " + k[0] + ", later", x, 1, 0, -2, -2);
        }
        // SIZE 3 and 8, one by one: FRONT 1, 2, .. on edge 1
        for (int size = 3; size <= 8; size += 5) {
            RoadDesk x = Roads.line(1, 20, 50, 50);
            x.type(0, 1, 1, size);
            x.car(0, 0, 0, 1);
            x.run(1 + 20 - size);
            for (int front = 1; front <= 10; front++) {
                x.run(1);
                due.at("SIZE " + size, x, 0, 1, 0, front, 1);
                due.is("SIZE " + size + ", FRONT " + front, x.junction(1, 2), front < size ? 1 : 0);
            }
        }
    }

    private static void heldUntilNotOnAnyMore() {
        due.says("(or are not ON any more)");
        RoadDesk x = Roads.line(1, 22, 50, 50);
        x.car(0, 0, 0, 2);
        x.run(2);
        held("GRANTED", x, 1, 1, 0, 0);
        x.remove(0);
        held("removed", x, 1, 0, -2, -2);
        x.car(0, 0, 0, 2);
        held("WAITING", x, 1, 0, -2, -2);
        x.run(7);
        due.at("across", x, 0, 1, 0, 3, 6);
        held("across", x, 1, 1, 0, 0);
        x.remove(0);
        held("removed", x, 1, 0, -2, -2);
        x.car(0, 0, 1, 2);
        held("WAITING", x, 1, 0, -2, -2);
        x.run(1);
        held("ON", x, 1, 0, -2, -2);
        // another one can at once
        RoadDesk y = cross(40, 1, 40, 0);
        y.car(0, 0, 0, 2);
        y.car(1, 0, 1, 3);
        y.run(2);
        grant("first", y, 0, 2);
        grant("second", y, 1, -2);
        y.remove(0);
        y.run(1);
        grant("second", y, 1, 3);
    }

    private static void heldByNoneThatCameOn() {
        due.says("HELD by cars GRANTED an edge from there");
        RoadDesk x = Roads.line(1, 40, 50, 50);
        x.car(0, 0, 1, 1);
        x.run(1);
        held("it came ON from WAITING", x, 1, 0, -2, -2);
        held("it is on its GOAL", x, 2, 0, -2, -2);
    }

    private static void heldByACarAtTwoJunctions() {
        due.says("HELD by cars GRANTED an edge from there, until they have a FRONT of their SIZE or more on that");
        RoadDesk x = Roads.line(1, 22, 20, 50);
        x.type(1, 6, 1, 8);
        x.car(0, 1, 0, 2);
        x.run(6);
        due.at("just across", x, 0, 1, 0, 1, 5);
        held("just across", x, 1, 1, 0, 0);
        held("just across", x, 2, 0, -2, -2);
        x.run(1);
        due.at("FRONT 7 of SIZE 8", x, 0, 1, 0, 7, 6);
        grant("FRONT 7", x, 0, 2);
        held("the first", x, 1, 1, 0, 0);
        held("the second", x, 2, 1, 1, 0);
        x.run(1);
        held("the first", x, 1, 0, -2, -2);
        held("the second", x, 2, 1, 1, 0);
    }

    /** Edge 2, LENGTH 20, full: FRONT 20, 15 (SIZE 5), 9 and 4, all standing, so that the GAP from an END is -1. */
    private static void fill(RoadDesk x) {
        x.edge(2, 19, 20, Roads.shape(1, 12, 0));
        x.edge(4, 29, 50, Roads.shape(1, 12, 0));
        x.type(3, 6, 1, 5);
        Roads.red(x, 3);
        for (int c = 20; c < 24; c++) {
            x.car(c, c == 21 ? 3 : 0, 2, 4);
            Roads.run(x, 15);
        }
        due.at("full", x, 23, 2, 0, 4, 0);
        due.is("full, but HELD by none", x.junction(2, 2), 0);
    }

    private static void firstThatCan() {
        due.says("Of the cars that ASK the first one that CAN is GRANTED its NEXT edge");
        // both stand at their END: car 0 stands before car 1, but edge 2 is full; car 1 is to go to edge 3
        for (int full = 0; full < 2; full++) {
            RoadDesk x = cross(30, 1, 30, 0);
            if (full == 1) {
                fill(x);
            }
            Roads.red(x, 2);
            x.car(0, 0, 0, 2);
            x.car(1, 0, 1, 3);
            Roads.run(x, 20);
            due.at("at its END", x, 0, 0, 0, 30, 0);
            due.at("at its END", x, 1, 1, 0, 30, 0);
            Roads.green(x, 2);
            x.run(1);
            due.is("car 0", x.of(0, 1), full == 0 ? 2 : 0);
            due.is("car 1", x.of(1, 1), full == 0 ? 1 : 3);
            due.is("granted, without those that fill edge 2", x.total(4), 1);
        }
    }

    private static void theOwnLaneThere() {
        due.says("GRANTED its NEXT edge, the own lane there, or 0 if it has just that");
        for (int lane = 0; lane < 2; lane++) {
            for (int lanes = 1; lanes <= 2; lanes++) {
                RoadDesk x = Roads.line(2, 20, 50, 50);
                x.edge(1, 10, 50, Roads.shape(lanes, 12, 0));
                x.connect(0, 1 - lane, 0);
                x.car(0, 0, 0, 1);
                x.run(2);
                held("GRANTED", x, 1, 1, 0, lane);
                x.run(5);
                due.at("from lane " + lane + " of 2 to " + lanes, x, 0, 1, lanes == 2 ? lane : 0, 5, 6);
            }
        }
        // from the only lane to lane 0 of two
        RoadDesk y = Roads.line(2, 20, 50, 50);
        y.edge(0, 1, 20, Roads.shape(1, 12, 0));
        y.car(0, 0, 0, 1);
        y.run(7);
        due.at("from one lane", y, 0, 1, 0, 5, 6);
    }

    private static void andSoOn() {
        due.says("and so on, until none can");
        // standing at FRONT 60, 55, 50, .., 20, 15: the END of the ninth is 40 off, that of the tenth 45
        RoadDesk x = Roads.line(1, 60, 200, 50);
        Roads.red(x, 1);
        for (int c = 0; c < 10; c++) {
            x.car(c, 0, 0, 1);
        }
        Roads.run(x, 100);
        due.at("the ninth", x, 8, 0, 0, 20, 0);
        due.at("the tenth", x, 9, 0, 0, 15, 0);
        Roads.green(x, 1);
        x.run(1);
        due.is("granted in one step", x.total(4), 9);
        for (int c = 1; c < 10; c++) {
            grant("in one step", x, c, c < 9 ? 1 : -2);
        }
        held("the first as well, just across", x, 1, 9, 0, 0);
    }

    private static void asksWhereItsEdgeEnds() {
        due.says("A car ASKS if its edge ends here");
        for (int to = 0; to < 8; to++) {
            int from = (to + 3) % 8;
            RoadDesk x = new RoadDesk();
            x.edge(15, 8 * from + to, 40, Roads.shape(1, 12, 0));
            x.edge(14, 8 * to + (to + 5) % 8, 40, Roads.shape(1, 12, 0));
            x.car(31, 0, 15, 14);
            x.run(2);
            grant("junction " + to, x, 31, 14);
            held("junction " + to, x, to, 1, 15, 0);
            held("junction " + from, x, from, 0, -2, -2);
        }
    }

    private static void asksIfGreen() {
        due.says("A car ASKS if its edge .. is GREEN");
        RoadDesk x = Roads.line(1, 30, 50, 50);
        x.phase(1, 0, 65534, Roads.LONG);
        x.car(0, 0, 0, 1);
        x.run(5);
        grant("all but its edge", x, 0, -2);
        x.phase(1, 0, 1, Roads.LONG);
        x.run(1);
        grant("its edge", x, 0, 1);
        x.phase(1, 0, 0, Roads.LONG);
        x.run(1);
        grant("once GRANTED it stays so", x, 0, 1);
        x.run(5);
        due.is("and crosses", x.of(0, 1), 1);
    }

    private static void asksNotOnItsGoal() {
        due.says("and not its GOAL");
        RoadDesk x = Roads.line(1, 30, 50, 50);
        x.car(0, 0, 0, 0);
        x.run(7);
        grant("on its GOAL", x, 0, -2);
        due.is("granted", x.total(4), 0);
        // from the step on in which it has another GOAL
        RoadDesk y = Roads.line(1, 60, 50, 50);
        y.car(0, 0, 0, 0);
        y.run(7);
        y.aim(0, 1);
        y.run(1);
        grant("not on its GOAL", y, 0, 1);
    }

    private static void asksFromForty() {
        due.says("its END is within 40");
        // FRONT 4, 5, 7, 10
        int[][] cases = {{43, 2}, {44, 2}, {45, 3}, {46, 4}, {47, 4}, {48, 5}, {50, 5}, {51, 6}};
        for (int[] k : cases) {
            RoadDesk x = Roads.line(1, k[0], 50, 50);
            x.car(0, 0, 0, 1);
            x.run(k[1] - 1);
            grant("LENGTH " + k[0] + " step " + (k[1] - 1), x, 0, -2);
            x.run(1);
            grant("LENGTH " + k[0] + " step " + k[1], x, 0, 1);
        }
    }

    private static void asksOnce() {
        due.says("it is not GRANTED");
        RoadDesk x = Roads.line(1, 40, 50, 50);
        x.car(0, 0, 0, 1);
        for (int step = 2; step <= 8; step++) {
            x.run(step == 2 ? 2 : 1);
            grant("step " + step, x, 0, 1);
            due.is("granted, step " + step, x.total(4), 1);
            due.is("HELD by one, step " + step, x.junction(1, 2), 1);
        }
    }

    private static void grantedItStaysSo() {
        due.says("GRANTED its NEXT edge");
        // edges 2 and 5 both lead to its GOAL, edge 4; its NEXT edge changes, what it is GRANTED does not
        for (int k = 0; k < 4; k++) {
            RoadDesk y = cross(40, 0, 40, 0);
            y.edge(4, 28, 50, Roads.shape(1, 12, 0));
            y.edge(5, 19, 50, Roads.shape(1, 12, 0));
            y.car(0, 0, 0, 4);
            y.run(2);
            grant("by edge 2", y, 0, 2);
            if (k == 0) {
                y.weight(2, 1000);
            } else if (k == 1) {
                y.weight(2, -1);
            } else if (k == 2) {
                y.connect(0, 0, 32);
            } else {
                y.connect(0, 0, 0);
            }
            due.is("NEXT, case " + k, y.of(0, 7), k == 3 ? -2 : 5);
            for (int step = 3; step <= 9; step++) {
                y.run(1);
                grant("case " + k + " step " + step, y, 0, 2);
            }
            y.run(1);
            due.at("case " + k, y, 0, 2, 0, 3, 6);
            due.is("GRANTED once, case " + k, y.total(4), 1);
        }
    }

    private static void asksIfItsLaneLeads() {
        due.says("its lane leads to its NEXT edge");
        // side by side at the END, so that car 0, on lane 0, can't change to the lane that leads
        RoadDesk x = Roads.fork(30);
        x.car(0, 0, 0, 1);
        x.car(1, 0, 0, 2);
        Roads.run(x, 20);
        x.weight(2, -1);
        x.connect(0, 0, 4);
        x.connect(0, 1, 2);
        Roads.green(x, 1);
        x.run(3);
        grant("lane 0 does not lead to edge 1", x, 0, -2);
        due.is("granted", x.total(4), 0);
        x.connect(0, 0, 2);
        x.run(1);
        due.is("it leads there now: across", x.of(0, 1), 1);
    }

    private static void asksBehindNone() {
        due.says("and none is AHEAD of it on its lane, or one that is GRANTED that same edge and lane");
        // the one AHEAD, slow, is GRANTED the same edge, another one, or none, being on its GOAL
        int[][] cases = {{2, 2}, {3, -2}, {0, -2}};
        for (int[] k : cases) {
            RoadDesk x = cross(40, 0, 40, 0);
            x.type(1, 1, 1, 4);
            x.car(1, 1, 0, k[0]);
            x.car(0, 0, 0, 2);
            x.run(8);
            due.is("ON behind it", x.of(0, 0), 2);
            grant("ahead", x, 1, k[0] == 0 ? -2 : k[0]);
            grant("behind one to " + k[0], x, 0, k[1]);
            x.remove(1);
            x.run(1);
            grant("none AHEAD", x, 0, 2);
        }
        // one on the other lane is not AHEAD
        RoadDesk y = Roads.fork(60);
        y.car(0, 0, 0, 1);
        y.run(1);
        y.aim(0, 0);
        y.car(1, 0, 0, 2);
        Roads.green(y, 1);
        y.run(9);
        lane("ahead of it", y, 0, 0);
        lane("on lane 1", y, 1, 1);
        grant("beside one on its GOAL", y, 1, 2);
    }

    private static void lane(String when, RoadDesk x, int c, int lane) {
        due.is(when + ": lane of car " + c, x.of(c, 2), lane);
    }

    /** Cars on edges 0 and 1 ask in the same step: that on which of them is GRANTED edge 2, whatever its number. */
    private static void first(String when, Supplier<RoadDesk> made, int winner) {
        for (int shift = 0; shift < 2; shift++) {
            RoadDesk x = made.get();
            x.car(shift, 0, 0, 2);
            x.car(1 - shift, 0, 1, 2);
            x.run(2);
            grant(when, x, winner ^ shift, 2);
            grant(when, x, 1 - winner ^ shift, -2);
            held(when, x, 2, 1, winner, 0);
        }
    }

    private static void first(String when, int length, int rank, int otherLength, int otherRank, int winner) {
        first(when, () -> Roads.merge(length, rank, otherLength, otherRank), winner);
    }

    private static void byRank() {
        due.says("One stands before another by the greater RANK of its edge");
        for (int rank = 0; rank < 3; rank++) {
            first("the second edge", 40, rank, 40, rank + 1, 1);
            first("the first edge", 40, rank + 1, 40, rank, 0);
            first("though its END is farther", 30, rank, 40, rank + 1, 1);
            first("though its END is farther", 40, rank + 1, 30, rank, 0);
        }
        first("by 3", 20, 0, 44, 3, 1);
        // neither LANES nor LIMIT make a RANK
        for (int winner = 0; winner < 2; winner++) {
            for (int lanes = 1; lanes <= 2; lanes++) {
                int nearer = winner;
                int many = lanes;
                first("of one RANK", () -> {
                    RoadDesk x = Roads.merge(40, 0, 40, 0);
                    x.edge(1 - nearer, 8 - 8 * nearer + 2, 40, Roads.shape(many, 12, 2));
                    x.edge(nearer, 8 * nearer + 2, 39, Roads.shape(3 - many, 6, 2));
                    return x;
                }, winner);
            }
        }
    }

    private static void byNearerEnd() {
        due.says("then the nearer END");
        first("by 1, the second", 40, 0, 39, 0, 1);
        first("by 1, the first", 39, 0, 40, 0, 0);
        first("by 20", 44, 2, 24, 2, 1);
        // the nearer END, not the greater FRONT
        RoadDesk x = Roads.merge(60, 0, 30, 0);
        Roads.red(x, 2);
        x.type(1, 1, 1, 4);
        x.car(0, 0, 0, 2);
        x.run(8);
        x.car(1, 1, 1, 2);
        x.run(1);
        due.at("edge 0", x, 0, 0, 0, 37, 6);
        due.at("edge 1", x, 1, 1, 0, 4, 0);
        Roads.green(x, 2);
        x.run(1);
        grant("23 off", x, 0, 2);
        grant("26 off", x, 1, -2);
    }

    private static void byLesserEdge() {
        due.says("the lesser edge");
        first("edge 0", 40, 0, 40, 0, 0);
        first("edge 0", 40, 3, 40, 3, 0);
        // lane 1 of the lesser edge before lane 0 of the greater; whatever the cars' numbers
        for (int c = 0; c < 2; c++) {
            RoadDesk x = Roads.merge(30, 0, 30, 0);
            x.edge(0, 2, 30, Roads.shape(2, 12, 0));
            x.connect(0, 0, 0);
            x.car(c, 0, 0, 2);
            x.car(1 - c, 0, 1, 2);
            x.run(2);
            lane("edge 0", x, c, 1);
            grant("edge 0", x, c, 2);
            grant("edge 1", x, 1 - c, -2);
        }
    }

    private static void byLesserLane() {
        due.says("the lesser lane");
        // side by side at the END, until it is GREEN; whatever the cars' numbers
        for (int c = 0; c < 2; c++) {
            RoadDesk x = Roads.fork(30);
            x.car(c, 0, 0, 1);
            x.car(1 - c, 0, 0, 2);
            Roads.run(x, 25);
            due.at("lane 0", x, c, 0, 0, 30, 0);
            due.at("lane 1", x, 1 - c, 0, 1, 30, 0);
            Roads.green(x, 1);
            x.run(1);
            due.is("lane 0 is across", x.of(c, 1), 1);
            grant("lane 1", x, 1 - c, -2);
        }
    }

    /**
     * Car 0 comes up to a red light; then car 1 comes ON beyond it, with FRONT 4 or 5 and SPEED 0, and it is GREEN: car
     * 0 is GRANTED if the GAP, 1 less than what is left up to its END, is SAFE.
     */
    private static void canIfSafe() {
        due.says("It CAN if, as a GRANTED one, all that would be AHEAD of it or an END is SAFE for its SPEED");
        boolean just = false;
        boolean oneTooNear = false;
        boolean belowZero = false;
        for (int length = 30; length <= 70; length++) {
            for (int top = 3; top <= 12; top++) {
                for (int steps = 6; steps <= 14; steps++) {
                    RoadDesk x = Roads.line(1, length, 50, 50);
                    Roads.red(x, 1);
                    x.type(0, top, 1 + top % 3, 4);
                    x.car(0, 0, 0, 2);
                    x.run(steps);
                    x.car(1, 1, 1, 2);
                    x.run(1);
                    due.at("came ON beyond", x, 1, 1, 0, 4, 0);
                    int rest = length - x.of(0, 3);
                    int speed = x.of(0, 4);
                    int gap = rest + 4 - 4 - 1;
                    boolean safe = gap >= 0 && Model.d(speed) <= gap;
                    Roads.green(x, 1);
                    x.run(1);
                    due.same("GAP " + gap + ", SPEED " + speed, x.total(4) == 1, rest <= 40 && safe);
                    just |= safe && speed > 2 && Model.d(speed) == gap;
                    oneTooNear |= gap >= 0 && Model.d(speed) == gap + 1;
                    belowZero |= gap == -1;
                }
            }
        }
        due.yes("there is a case of a GAP just SAFE", just);
        due.yes("there is a case of a GAP 1 too small", oneTooNear);
        due.yes("there is a case of a GAP below 0", belowZero);
    }

    private static void canIfAheadOnItsLaneIsSafe() {
        due.says("all that would be AHEAD of it");
        // at the END, as the one beyond moves on: FRONT 4 (GAP -1), then 5 (GAP 0)
        RoadDesk x = Roads.line(1, 30, 50, 50);
        Roads.red(x, 1);
        x.car(0, 0, 0, 2);
        x.run(15);
        x.car(1, 0, 1, 2);
        x.run(1);
        Roads.green(x, 1);
        x.run(1);
        grant("GAP -1", x, 0, -2);
        due.at("beyond", x, 1, 1, 0, 5, 1);
        x.run(1);
        grant("GAP 0", x, 0, 1);
        due.at("GAP 0", x, 0, 0, 0, 30, 0);
    }

    private static void heldByNoneOfAnotherLane() {
        due.says("and the junction is HELD by none; or by some that came from its lane");
        // car 0 from edge 0 holds it on its way to edge 2; car 1 from edge 1 is to go to edge 2 or 3
        for (int goal = 2; goal <= 3; goal++) {
            RoadDesk x = cross(40, 1, 40, 0);
            x.car(0, 0, 0, 2);
            x.car(1, 0, 1, goal);
            x.run(2);
            for (int step = 2; step <= 10; step++) {
                grant("to " + goal + " step " + step, x, 1, -2);
                x.run(1);
            }
            due.at("clear, after FRONT 3 of SIZE 4", x, 0, 2, 0, 9, 6);
            due.is("HELD by none", x.junction(2, 2), 0);
            due.at("at its END", x, 1, 1, 0, 40, 1);
            x.run(1);
            due.at("GRANTED then, and across", x, 1, goal, 0, 2, 2);
        }
        // from the other lane of the same edge to the same edge: two lanes, or one
        for (int lanes = 1; lanes <= 2; lanes++) {
            RoadDesk x = Roads.line(2, 40, 50, 50);
            x.edge(1, 10, 50, Roads.shape(lanes, 12, 0));
            x.connect(0, 1, 0);
            x.car(0, 0, 0, 1);
            x.run(2);
            x.connect(0, 1, 2);
            x.connect(0, 0, 0);
            x.car(1, 0, 0, 1);
            x.run(4);
            grant("lane 0", x, 0, 1);
            lane("lane 1", x, 1, 1);
            grant("lane 1", x, 1, -2);
        }
    }

    private static void heldToAnotherEdge() {
        due.says("by some that came from its lane and were granted that same edge and lane");
        // two to edge 2, then one to edge 3, or the other way round, all from edge 0: the third not before both are clear
        for (int edge = 2; edge <= 3; edge++) {
            RoadDesk x = cross(40, 0, 40, 0);
            x.car(0, 0, 0, edge);
            x.car(1, 0, 0, edge);
            x.car(2, 0, 0, 5 - edge);
            x.run(5);
            grant("first", x, 0, edge);
            grant("second", x, 1, edge);
            held("together", x, 2, 2, 0, 0);
            x.run(4);
            due.is("third is ON", x.of(2, 0), 2);
            grant("third", x, 2, -2);
            x.run(4);
            due.at("second is across", x, 1, edge, 0, 3, 6);
            held("the second alone", x, 2, 1, 0, 0);
            x.run(1);
            held("none", x, 2, 0, -2, -2);
            grant("third", x, 2, -2);
            x.run(1);
            grant("third", x, 2, 5 - edge);
            held("the third", x, 2, 1, 0, 0);
        }
    }

    private static void heldByOneThatHasChangedLanes() {
        due.says("and were granted that same edge and lane");
        // the first, SIZE 8 and slow, changes to lane 1 of edge 1 while it still holds the junction
        RoadDesk x = Roads.line(2, 20, 50, 50);
        x.edge(0, 1, 20, Roads.shape(1, 12, 0));
        x.connect(1, 0, 0);
        x.type(0, 1, 1, 8);
        x.type(1, 6, 1, 3);
        x.car(0, 0, 0, 2);
        x.run(14);
        due.at("across", x, 0, 1, 0, 1, 1);
        x.run(1);
        due.at("on the other lane", x, 0, 1, 1, 2, 1);
        held("still", x, 1, 1, 0, 0);
        x.car(1, 1, 0, 2);
        x.run(2);
        due.at("still not clear", x, 0, 1, 1, 4, 1);
        grant("from the lane that it came from", x, 1, 1);
        held("both", x, 1, 2, 0, 0);
    }

    /**
     * Cars a and b on one edge, c on another, both to junction 2; a holds it, and b and c ask in the same step, both with
     * FRONT 4.
     */
    private static void together(String when, RoadDesk x, int[] cars, int[] edges, int goal, int granted) {
        x.car(cars[0], 0, edges[0], 2);
        x.car(cars[1], 0, edges[0], 2);
        x.run(3);
        x.car(cars[2], 0, edges[1], goal);
        x.run(1);
        due.at(when, x, cars[1], edges[0], 0, 4, 0);
        due.at(when, x, cars[2], edges[1], 0, 4, 0);
        x.run(1);
        grant(when, x, cars[0], 2);
        grant(when, x, cars[1], granted);
        grant(when, x, cars[2], -2);
    }

    private static void noneThatAsksStandsBefore() {
        due.says("and no car from another lane that ASKS stands before it");
        int[][] cases = {{40, 0, 40, 1, -2}, {40, 0, 39, 0, -2}, {40, 0, 41, 0, 2}, {40, 1, 30, 0, 2},
            {40, 1, 30, 1, -2}, {30, 0, 44, 1, -2}};
        int[][] orders = {{0, 1, 2}, {1, 2, 0}, {2, 0, 1}};
        for (int[] k : cases) {
            for (int[] cars : orders) {
                // what the one on the other edge is to go to does not matter
                for (int goal = 2; goal <= 3; goal++) {
                    String when = k[0] + " " + k[1] + " and " + k[2] + " " + k[3] + ", cars from " + cars[0];
                    together(when, cross(k[0], k[1], k[2], k[3]), cars, new int[] {0, 1}, goal, k[4]);
                    together(when, cross(k[2], k[3], k[0], k[1]), cars, new int[] {1, 0}, goal, k[4]);
                }
            }
        }
        for (int[] cars : orders) {
            together("the lesser edge", cross(40, 0, 40, 0), cars, new int[] {0, 1}, 2, 2);
            together("the greater edge", cross(40, 0, 40, 0), cars, new int[] {1, 0}, 2, -2);
        }
    }

    private static void onesThatDoNotAskDoNotMatter() {
        due.says("no car from another lane that ASKS");
        String[] cases = {"on its GOAL", "not GREEN", "too far off", "without a NEXT edge", "another RANK"};
        for (int k = 0; k < cases.length; k++) {
            RoadDesk x = cross(40, 0, k == 2 ? 60 : 40, 1);
            if (k == 1) {
                x.phase(2, 0, 1, Roads.LONG);
            }
            x.car(0, 0, 0, 2);
            x.car(1, 0, 0, 2);
            x.run(3);
            x.car(2, 0, 1, k == 0 ? 1 : 3);
            x.run(1);
            if (k == 3) {
                x.weight(3, -1);
            }
            due.at("car 1", x, 1, 0, 0, 4, 0);
            due.at("car 2", x, 2, 1, 0, 4, 0);
            x.run(1);
            grant(cases[k], x, 1, k == 4 ? -2 : 2);
        }
    }

    private static void crossingsBeforeMoves() {
        due.says("A STEP does this, in order: .. CROSSINGS .. MOVES .. ENTRIES");
        // it comes ON in step 1, asks in step 2, and is held back by no END from then on
        RoadDesk x = Roads.line(1, 20, 50, 50);
        x.type(0, 12, 3, 8);
        x.car(0, 0, 0, 1);
        x.run(1);
        grant("step 1", x, 0, -2);
        x.run(1);
        grant("step 2", x, 0, 1);
        due.at("step 2", x, 0, 0, 0, 11, 3);
        x.run(1);
        due.at("step 3", x, 0, 0, 0, 17, 6);
        x.run(1);
        due.at("step 4", x, 0, 1, 0, 6, 9);
    }
}
