/** A STEP's LANES. */
public final class LanesTest {
    private static final Due due = new Due("LanesTest");
    private static final int LANE_0 = 2, LANE_1 = 4, BOTH = 6;

    public static void main(String[] args) {
        edgesWithTwo();
        greatestFrontFirst();
        greatestFrontOfBothLanesFirst();
        laterOnesSeeTheChange();
        ofOneFront();
        notGranted();
        notTooSoonAgain();
        notTooSoonOnTheNextEdge();
        aheadAndBehindMustBeSafe();
        aheadThereIsTheNearest();
        behindThereIsTheNearest();
        behindAtTheSameFront();
        behindMustNotBeGranted();
        noneBehindAndNoneGranted();
        grantedWithOneBehind();
        wantsTheLaneThatLeads();
        wantsOnlyBehindAnother();
        wantsBelowTwenty();
        wantsBySpeedAndTop();
        wantsTenMore();
        wantsOnItsGoal();
        wantsOnlyALaneThatLeads();
        lanesBeforeCrossings();
        due.end();
    }

    private static void lane(String when, RoadDesk x, int c, int lane) {
        due.is(when + ": lane of car " + c, x.of(c, 2), lane);
    }

    private static void edgesWithTwo() {
        due.says("on edges with two");
        RoadDesk x = Roads.line(1, 200, 50, 50);
        x.type(1, 1, 1, 3);
        x.car(0, 1, 0, 0);
        x.car(1, 0, 0, 0);
        Roads.run(x, 40);
        lane("behind a slow one", x, 1, 0);
        due.is("changes", x.total(3), 0);
        // the same with edges before and behind it that have two
        for (int e = 0; e < 3; e++) {
            RoadDesk w = Roads.line(2, 200, 200, 200);
            w.edge(e, 9 * e + 1, 200, Roads.shape(1, 12, 0));
            w.type(1, 1, 1, 3);
            w.car(0, 1, e, e);
            w.car(1, 0, e, e);
            w.run(20);
            due.at("one lane alone", w, 1, e, 0, 22 - 3 - 1 - 1, 1);
            due.is("changes", w.total(3), 0);
        }
        // on each edge that has two
        for (int e = 0; e < 16; e++) {
            RoadDesk y = new RoadDesk();
            y.edge(e, 1, 200, Roads.shape(2, 12, 0));
            y.type(1, 1, 1, 3);
            y.car(0, 1, e, e);
            y.car(1, 0, e, e);
            y.run(7);
            lane("edge " + e, y, 1, 1);
        }
    }

    /** Cars in this order on lane 0, the second with a greater TOP; both lanes lead to their NEXT edge. */
    private static RoadDesk two(int first, int second) {
        RoadDesk x = Roads.fork(200);
        x.type(1, 9, 1, 4);
        x.car(first, 0, 0, 1);
        x.car(second, 1, 0, 1);
        x.run(9);
        x.connect(0, 1, BOTH);
        return x;
    }

    private static void greatestFrontFirst() {
        due.says("from the greatest FRONT on");
        // the first wants to the lane that leads; the second past the first, but that is gone then
        for (int first = 0; first < 2; first++) {
            int second = 1 - first;
            RoadDesk x = two(first, second);
            x.aim(first, 2);
            x.run(1);
            lane("first", x, first, 1);
            lane("second", x, second, 0);
            due.is("changes", x.total(3), 1);
            // without the first one's change the second wants to
            RoadDesk y = two(first, second);
            y.run(1);
            lane("first", y, first, 0);
            lane("second", y, second, 1);
        }
    }

    private static void greatestFrontOfBothLanesFirst() {
        due.says("from the greatest FRONT on");
        // standing: one on lane 1 at FRONT 60 wants to lane 0, where the other is at 55, on its GOAL, with none AHEAD;
        // it has one AHEAD then, and lane 1 is free
        for (int first = 0; first < 2; first++) {
            int second = 1 - first;
            RoadDesk x = Roads.fork(60);
            x.car(first, 0, 0, 2);
            x.car(2, 0, 0, 1);
            x.car(second, 0, 0, 1);
            Roads.run(x, 40);
            due.at("on lane 1", x, first, 0, 1, 60, 0);
            due.at("on lane 0", x, second, 0, 0, 55, 0);
            x.aim(second, 0);
            x.remove(2);
            x.aim(first, 1);
            x.run(1);
            lane("first", x, first, 0);
            lane("second", x, second, 1);
            due.is("changes", x.total(3), 2);
        }
    }

    private static void laterOnesSeeTheChange() {
        due.says("from the greatest FRONT on, each car once");
        // standing at FRONT 60, 55, 50 on lane 0: all change in one step, each right behind the other
        int[][] orders = {{0, 1, 2}, {2, 1, 0}, {1, 2, 0}};
        for (int[] order : orders) {
            RoadDesk x = Roads.fork(60);
            for (int c : order) {
                x.car(c, 0, 0, 1);
            }
            Roads.run(x, 50);
            for (int c : order) {
                x.aim(c, 2);
            }
            x.run(1);
            for (int i = 0; i < 3; i++) {
                due.at("changed, " + i, x, order[i], 0, 1, 60 - 5 * i, 0);
            }
            due.is("changes", x.total(3), 3);
        }
    }

    private static void ofOneFront() {
        due.says("(of one FRONT lane 0 first)");
        // side by side, each on the other's lane: neither can
        for (int first = 0; first < 2; first++) {
            RoadDesk x = Roads.fork(60);
            x.car(first, 0, 0, 1);
            x.car(1 - first, 0, 0, 2);
            Roads.run(x, 40);
            x.aim(first, 2);
            x.aim(1 - first, 1);
            x.run(5);
            due.at("lane 0", x, first, 0, 0, 60, 0);
            due.at("lane 1", x, 1 - first, 0, 1, 60, 0);
            due.is("changes", x.total(3), 0);
            x.remove(first);
            x.run(1);
            lane("room now", x, 1 - first, 0);
        }
    }

    private static void notGranted() {
        due.says("a car changes to the other lane if it is not GRANTED");
        for (int granted = 0; granted < 2; granted++) {
            RoadDesk x = Roads.fork(60);
            if (granted == 1) {
                Roads.green(x, 1);
            }
            x.car(0, 0, 0, 1);
            x.run(8);
            due.is("GRANTED", x.of(0, 5), granted == 1 ? 1 : -2);
            x.connect(0, 0, LANE_1);
            x.connect(0, 1, LANE_0);
            x.run(1);
            lane("GRANTED " + granted, x, 0, 1 - granted);
        }
    }

    private static void notTooSoonAgain() {
        due.says("has not changed in this step or the 4 before it");
        RoadDesk x = Roads.fork(200);
        x.car(0, 0, 0, 1);
        x.run(3);
        x.aim(0, 2);
        x.run(1);
        lane("in step 4", x, 0, 1);
        x.aim(0, 1);
        for (int step = 5; step <= 8; step++) {
            x.run(1);
            lane("not in step " + step, x, 0, 1);
        }
        x.run(1);
        lane("in step 9", x, 0, 0);
        x.aim(0, 2);
        x.run(4);
        lane("not in steps 10 to 13", x, 0, 0);
        x.run(1);
        lane("in step 14", x, 0, 1);
        due.is("changes", x.total(3), 3);
        // from the first step on that it is ON
        RoadDesk y = Roads.fork(200);
        y.car(0, 0, 0, 1);
        y.run(1);
        y.aim(0, 2);
        y.run(1);
        lane("in step 2", y, 0, 1);
    }

    private static void notTooSoonOnTheNextEdge() {
        due.says("has not changed in this step or the 4 before it");
        // it changes in step 7, crosses in step 8, and wants to change on edge 1
        RoadDesk x = Roads.line(2, 30, 50, 50);
        Roads.red(x, 1);
        x.car(0, 0, 0, 2);
        x.run(6);
        due.at("on lane 0", x, 0, 0, 0, 19, 5);
        x.connect(0, 0, 0);
        x.connect(1, 1, 0);
        Roads.green(x, 1);
        x.run(1);
        due.at("step 7", x, 0, 0, 1, 25, 6);
        for (int step = 8; step <= 11; step++) {
            x.run(1);
            due.is("edge in step " + step, x.of(0, 1), 1);
            lane("step " + step, x, 0, 1);
        }
        x.run(1);
        lane("step 12", x, 0, 0);
    }

    /**
     * Car 1, SIZE 3, on lane 0 wants to lane 1, where car 0 is, SIZE 5: with all speeds and GAPs that come about, it
     * changes if and only if what is AHEAD is SAFE for it, or it is SAFE for what is BEHIND.
     */
    private static void aheadAndBehindMustBeSafe() {
        int[] seen = new int[10];
        int[] tops = {1, 3, 6, 9, 12};
        for (int top : tops) {
            for (int otherTop : tops) {
                for (int delay = 0; delay <= 9; delay++) {
                    for (int steps = 1; steps <= 14; steps++) {
                        beside(top, otherTop, delay, steps, 0, seen);
                        beside(top, otherTop, delay, steps, 1, seen);
                    }
                }
            }
        }
        String[] cases = {"AHEAD just SAFE", "AHEAD 1 too near", "AHEAD with GAP 0", "AHEAD with GAP -1, else SAFE",
            "AHEAD SAFE by its SPEED alone", "BEHIND just SAFE", "BEHIND 1 too near", "BEHIND with GAP 0",
            "BEHIND with GAP -1, else SAFE", "BEHIND SAFE by the own SPEED alone"};
        for (int i = 0; i < cases.length; i++) {
            due.yes("there is a case of " + cases[i], seen[i] > 0);
        }
    }

    private static void beside(int top, int otherTop, int delay, int steps, int first, int[] seen) {
        RoadDesk x = Roads.fork(200);
        x.type(0, otherTop, 1 + otherTop % 3, 5);
        x.type(1, top, 1 + delay % 3, 3);
        x.car(first, first, 0, 2 - first);
        x.run(delay);
        x.car(1 - first, 1 - first, 0, 1 + first);
        x.run(steps);
        if (x.of(0, 0) != 2 || x.of(1, 0) != 2) {
            return;
        }
        int front = x.of(1, 3);
        int speed = x.of(1, 4);
        int otherFront = x.of(0, 3);
        int otherSpeed = x.of(0, 4);
        boolean ahead = otherFront > front;
        int gap = ahead ? otherFront - 5 - 1 - front : front - 3 - 1 - otherFront;
        int hind = ahead ? speed : otherSpeed;
        int fore = ahead ? otherSpeed : speed;
        int spare = gap + Model.d(fore) - Model.d(hind);
        due.says(ahead ? "what is AHEAD of it there is SAFE for its SPEED"
                : "its GAP and SPEED are SAFE for the one BEHIND it there");
        x.aim(1, 2);
        x.run(1);
        due.is("GAP " + gap + ", SPEED " + hind + " behind " + fore, x.of(1, 2), gap >= 0 && spare >= 0 ? 1 : 0);
        int base = ahead ? 0 : 5;
        seen[base] += gap >= 0 && spare == 0 && hind > 2 ? 1 : 0;
        seen[base + 1] += gap >= 0 && spare == -1 ? 1 : 0;
        seen[base + 2] += gap == 0 && spare >= 0 ? 1 : 0;
        seen[base + 3] += gap == -1 && spare >= 0 ? 1 : 0;
        seen[base + 4] += gap >= 0 && spare >= 0 && Model.d(hind) > gap ? 1 : 0;
    }

    private static void aheadThereIsTheNearest() {
        due.says("what is AHEAD of it there is SAFE for its SPEED");
        // standing: car 4 on lane 0 at FRONT 50; on lane 1 at 60 and at 55, the latter with SIZE 4 or 5: GAP 0 or -1
        for (int size = 4; size <= 5; size++) {
            for (int nearest = 0; nearest < 2; nearest++) {
                RoadDesk x = Roads.fork(60);
                x.type(1, 6, 1, size);
                x.car(1 - nearest, 0, 0, 2);
                x.car(nearest, 1, 0, 2);
                x.car(2, 0, 0, 1);
                x.car(3, 0, 0, 1);
                x.car(4, 0, 0, 1);
                Roads.run(x, 60);
                due.at("on lane 1", x, nearest, 0, 1, 55, 0);
                due.at("on lane 0", x, 4, 0, 0, 50, 0);
                x.aim(4, 2);
                x.run(1);
                lane("SIZE " + size, x, 4, size == 4 ? 1 : 0);
            }
        }
    }

    private static void behindThereIsTheNearest() {
        due.says("the one BEHIND it there (with the greatest FRONT that is not more)");
        // standing: car 3 on lane 0 at FRONT 60, SIZE 4 or 5; on lane 1 at 55 (GAP 0 or -1) and at 50
        for (int size = 4; size <= 5; size++) {
            for (int nearest = 0; nearest < 2; nearest++) {
                RoadDesk x = Roads.fork(60);
                x.type(1, 6, 1, size);
                x.car(2, 0, 0, 2);
                x.car(nearest, 0, 0, 2);
                x.car(1 - nearest, 0, 0, 2);
                x.car(3, 1, 0, 1);
                Roads.run(x, 60);
                due.at("on lane 0", x, 3, 0, 0, 60, 0);
                due.at("nearest on lane 1", x, nearest, 0, 1, 55, 0);
                due.at("next on lane 1", x, 1 - nearest, 0, 1, 50, 0);
                x.remove(2);
                x.aim(3, 2);
                x.run(1);
                lane("SIZE " + size, x, 3, size == 4 ? 1 : 0);
            }
        }
    }

    private static void behindAtTheSameFront() {
        due.says("with the greatest FRONT that is not more");
        RoadDesk x = Roads.fork(60);
        x.car(0, 0, 0, 1);
        x.car(1, 0, 0, 2);
        Roads.run(x, 40);
        x.aim(0, 2);
        x.run(3);
        due.at("beside it", x, 1, 0, 1, 60, 0);
        due.at("stays", x, 0, 0, 0, 60, 0);
    }

    private static void behindMustNotBeGranted() {
        due.says("the one BEHIND it there .., which is not GRANTED");
        // car 0 stands at the END of lane 0 without a NEXT edge; car 1 comes up on lane 1, and is GRANTED edge 2
        for (int granted = 0; granted < 2; granted++) {
            RoadDesk x = Roads.fork(60);
            x.car(0, 0, 0, 1);
            x.run(1);
            x.weight(1, -1);
            Roads.run(x, 20);
            if (granted == 1) {
                Roads.green(x, 1);
            }
            x.car(1, 0, 0, 2);
            x.run(8);
            due.at("at the END", x, 0, 0, 0, 60, 0);
            due.at("coming up", x, 1, 0, 1, 31, 6);
            due.is("GRANTED", x.of(1, 5), granted == 1 ? 2 : -2);
            x.aim(0, 2);
            x.run(1);
            due.is("GRANTED " + granted + ": changes", x.total(3), 1 - granted);
            due.at("GRANTED " + granted, x, 0, 0, 1 - granted, 60, 0);
        }
    }

    /** Cars on edge 1, with two lanes, 0 to edge 2 and 1 to edge 3, nothing GREEN at its END; edge 0 leads there. */
    private static RoadDesk beyond() {
        RoadDesk x = new RoadDesk();
        x.edge(0, 1, 40, Roads.shape(2, 12, 0));
        x.edge(1, 10, 200, Roads.shape(2, 12, 0));
        x.edge(2, 19, 50, Roads.shape(1, 12, 0));
        x.edge(3, 20, 50, Roads.shape(1, 12, 0));
        x.connect(1, 0, 4);
        x.connect(1, 1, 8);
        x.type(1, 1, 1, 3);
        Roads.red(x, 2);
        return x;
    }

    private static void noneBehindAndNoneGranted() {
        due.says("if there is none BEHIND, no car may be GRANTED that lane");
        // car 1 on lane 0 of edge 1 wants to lane 1; car 0, slow, is GRANTED lane 0 or 1 of that edge, or nothing
        for (int granted = 0; granted < 3; granted++) {
            RoadDesk x = beyond();
            x.car(1, 0, 1, 2);
            x.run(3);
            if (granted < 2) {
                x.connect(0, 1 - granted, 0);
                x.car(0, 1, 0, 1);
            }
            x.run(2);
            due.is("GRANTED", x.of(0, 5), granted < 2 ? 1 : -2);
            x.aim(1, 3);
            x.run(1);
            lane("lane " + granted + " is GRANTED", x, 1, granted == 1 ? 0 : 1);
            x.remove(0);
            x.run(1);
            lane("none is", x, 1, 1);
        }
    }

    private static void grantedWithOneBehind() {
        due.says("if there is none BEHIND");
        // car 2 on lane 1 is BEHIND car 1, so that it does not matter that car 0 is GRANTED lane 1
        RoadDesk x = beyond();
        x.car(1, 0, 1, 2);
        x.run(3);
        x.car(2, 1, 1, 3);
        x.run(3);
        x.connect(0, 0, 0);
        x.car(0, 1, 0, 1);
        x.run(2);
        due.is("GRANTED", x.of(0, 5), 1);
        lane("on lane 1", x, 2, 1);
        x.aim(1, 3);
        x.run(1);
        lane("with one BEHIND", x, 1, 1);
    }

    private static void wantsTheLaneThatLeads() {
        due.says("if the other lane leads to its NEXT edge and the own one does not");
        // NEXT is edge 1 whenever a lane leads there
        int[][] masks = {{2, 2, 0}, {2, 0, 0}, {0, 2, 1}, {2, 4, 0}, {4, 2, 1}, {6, 6, 0}, {4, 6, 1}, {6, 4, 0},
            {0, 0, 0}, {4, 4, 0}};
        for (int[] k : masks) {
            RoadDesk x = Roads.fork(200);
            x.car(0, 0, 0, 1);
            x.run(3);
            x.connect(0, 0, k[0]);
            x.connect(0, 1, k[1]);
            x.run(2);
            lane("MASKS " + k[0] + " and " + k[1], x, 0, k[2]);
        }
        // the MASK has it, but it does not begin there
        RoadDesk y = Roads.line(2, 200, 50, 50);
        Roads.red(y, 1);
        y.car(0, 0, 0, 2);
        y.run(2);
        y.connect(0, 0, 4);
        y.connect(0, 1, 4);
        y.run(2);
        lane("neither leads", y, 0, 0);
        // from lane 1 to lane 0 as well
        RoadDesk z = Roads.fork(200);
        z.car(0, 0, 0, 2);
        z.run(2);
        lane("lane 1", z, 0, 1);
        z.aim(0, 1);
        z.run(1);
        lane("lane 0", z, 0, 0);
    }

    private static void wantsOnlyBehindAnother() {
        due.says("or if one is AHEAD of it on its lane");
        RoadDesk x = Roads.fork(200);
        x.connect(0, 1, BOTH);
        x.car(0, 0, 0, 1);
        x.run(15);
        lane("alone", x, 0, 0);
        // one behind it does not make it change
        RoadDesk y = new RoadDesk();
        y.edge(0, 1, 200, Roads.shape(2, 12, 0));
        y.type(1, 3, 1, 4);
        y.car(0, 1, 0, 0);
        y.run(4);
        y.car(1, 1, 0, 0);
        y.run(10);
        lane("before another", y, 0, 0);
    }

    private static void wantsBelowTwenty() {
        due.says("with a GAP below 20");
        boolean twenty = false;
        boolean nineteen = false;
        for (int start = 22; start <= 40; start++) {
            RoadDesk x = new RoadDesk();
            x.edge(0, 1, 200, Roads.shape(2, 12, 0));
            x.type(1, 1, 1, 3);
            x.type(2, 2 + start % 2, 1, 5);
            x.car(0, 1, 0, 0);
            Roads.run(x, start);
            x.car(1, 2, 0, 0);
            x.run(1);
            for (int i = 0; i < 60 && x.of(1, 2) == 0; i++) {
                int gap = x.of(0, 3) - 3 - 1 - x.of(1, 3);
                x.run(1);
                lane("GAP " + gap, x, 1, gap < 20 ? 1 : 0);
                twenty |= gap == 20;
                nineteen |= gap == 19;
            }
            lane("in the end", x, 1, 1);
        }
        due.yes("there is a case of GAP 20", twenty);
        due.yes("there is a case of GAP 19", nineteen);
    }

    private static void wantsBySpeedAndTop() {
        due.says("and a SPEED below its TOP");
        // car 0 with SPEED 5; car 1 behind it may change from step 9 on
        for (int top = 4; top <= 7; top++) {
            RoadDesk x = Roads.fork(200);
            x.type(1, 5, 1, 3);
            x.type(2, top, 1, 3);
            x.car(0, 1, 0, 1);
            x.car(1, 2, 0, 1);
            x.run(9);
            due.is("SPEED AHEAD", x.of(0, 4), 5);
            due.is("GAP", x.of(0, 3) - 4 - x.of(1, 3) < 20 ? 1 : 0, 1);
            x.connect(0, 1, BOTH);
            x.run(1);
            lane("TOP " + top, x, 1, top > 5 ? 1 : 0);
        }
    }

    private static void wantsTenMore() {
        due.says("the GAP AHEAD on the other lane (1000 if there is none) is 10 more or more");
        // standing on lane 0: FRONT 100, 95, 90; on lane 1 FRONT 100, SIZE 3 to 6: GAPs 11, 10, 9, 8 more
        for (int size = 3; size <= 6; size++) {
            RoadDesk x = Roads.fork(100);
            x.type(1, 6, 1, size);
            x.car(0, 1, 0, 2);
            for (int c = 1; c <= 3; c++) {
                x.car(c, 0, 0, 1);
            }
            Roads.run(x, 60);
            due.at("third", x, 3, 0, 0, 90, 0);
            due.at("beside", x, 0, 0, 1, 100, 0);
            x.car(4, 0, 0, 1);
            x.run(13);
            due.at("coming up", x, 4, 0, 0, 61, 6);
            x.run(1);
            due.at("GAP 18", x, 4, 0, 0, 67, 6);
            x.connect(0, 1, BOTH);
            x.run(1);
            lane("SIZE " + size, x, 4, size < 5 ? 1 : 0);
            lane("third", x, 3, 0);
        }
        // with none there the same one changes, whatever its GAP
        for (int top = 2; top <= 12; top++) {
            RoadDesk x = Roads.slowOne(top);
            x.run(1);
            lane("none on the other lane, TOP " + top, x, 1, 1);
        }
    }

    private static void wantsOnItsGoal() {
        due.says("and it is on its GOAL");
        for (int mask = 0; mask < 2; mask++) {
            RoadDesk x = new RoadDesk();
            x.edge(0, 1, 200, Roads.shape(2, 12, 0));
            x.connect(0, 0, 65535 * mask);
            x.connect(0, 1, 0);
            x.type(1, 1, 1, 3);
            x.car(0, 1, 0, 0);
            x.car(1, 0, 0, 0);
            x.run(7);
            lane("leading nowhere", x, 1, 1);
        }
    }

    private static void wantsOnlyALaneThatLeads() {
        due.says("or the other lane leads to its NEXT edge");
        int[] masks = {0, LANE_1, LANE_0, BOTH};
        for (int mask : masks) {
            RoadDesk x = Roads.fork(200);
            x.connect(0, 1, mask);
            x.type(1, 1, 1, 3);
            x.car(0, 1, 0, 1);
            x.car(1, 0, 0, 1);
            x.run(7);
            lane("MASK " + mask, x, 1, (mask & LANE_0) != 0 ? 1 : 0);
        }
        // the edge that it is to go to has a lesser number than its own, or a greater one
        for (int goal = 1; goal <= 9; goal += 8) {
            for (int leads = 0; leads < 2; leads++) {
                RoadDesk z = new RoadDesk();
                z.edge(5, 1, 200, Roads.shape(2, 12, 0));
                z.edge(goal, 10, 50, Roads.shape(1, 12, 0));
                z.connect(5, 1, leads << goal);
                Roads.red(z, 1);
                z.type(1, 1, 1, 3);
                z.car(0, 1, 5, goal);
                z.car(1, 0, 5, goal);
                z.run(7);
                lane("from edge 5 to " + goal, z, 1, leads);
            }
        }
        // without a NEXT edge it stays
        RoadDesk y = Roads.fork(200);
        y.connect(0, 1, BOTH);
        y.type(1, 1, 1, 3);
        y.car(0, 1, 0, 1);
        y.car(1, 0, 0, 1);
        y.run(6);
        y.weight(1, -1);
        y.run(5);
        lane("no NEXT edge", y, 1, 0);
        y.weight(1, 0);
        y.run(1);
        lane("a NEXT edge", y, 1, 1);
    }

    private static void lanesBeforeCrossings() {
        due.says("A STEP does this, in order: .. LANES .. CROSSINGS .. MOVES");
        // it stands at the END on the wrong lane: in one step it changes, is GRANTED edge 2 and crosses
        RoadDesk x = Roads.fork(30);
        x.car(0, 0, 0, 1);
        Roads.run(x, 15);
        due.at("at the END", x, 0, 0, 0, 30, 0);
        x.aim(0, 2);
        Roads.green(x, 1);
        x.run(1);
        due.at("across", x, 0, 2, 0, 1, 1);
        due.is("a change", x.total(3), 1);
        due.is("a grant", x.total(4), 1);
        due.is("it came ON", x.road(2, 4), 1);
    }
}
