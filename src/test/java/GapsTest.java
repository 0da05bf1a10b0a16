/** 'Terms': D(v), SAFE, AHEAD, GAP and END. */
public final class GapsTest {
    private static final Due due = new Due("GapsTest");
    /** D(0) .. D(12), worked out by hand: 0, 0, 0, 1, 2, 3 + 1, 4 + 2, 5 + 3 + 1, .. */
    private static final int[] D = {0, 0, 0, 1, 2, 4, 6, 9, 12, 16, 20, 25, 30};

    public static void main(String[] args) {
        brakingSpans();
        safeIsAtLeastZero();
        aheadIsTheNearest();
        gapHasTheSizeAhead();
        aheadIsOnItsLane();
        grantedSeesItsLaneFirst();
        grantedSeesTheLaneBeyond();
        othersDoNotSeeBeyond();
        endOfTheEdge();
        noEndOnTheGoal();
        endOfTheGrantedEdge();
        noEndOfTheGoalBeyond();
        due.end();
    }

    /** Steps up to SPEED v and a FRONT of 21 or more, and that FRONT: ACCEL 1, SIZE 8. */
    private static int[] cruise(int v) {
        int steps = 0;
        int front = 8;
        int speed = 0;
        while (speed < v || front < 21) {
            speed = Math.min(speed + 1, v);
            front += speed;
            steps++;
        }
        return new int[] {steps, front};
    }

    /** Car 0 on its GOAL, edge 0, with SPEED v and this much left up to the END. */
    private static RoadDesk cruising(int v, int rest) {
        int[] cruise = cruise(v);
        RoadDesk x = new RoadDesk();
        x.edge(0, 1, cruise[1] + rest, Roads.shape(1, 12, 0));
        x.edge(1, 10, 50, Roads.shape(1, 12, 0));
        x.type(1, v, 1, 8);
        x.car(0, 1, 0, 0);
        x.run(1 + cruise[0]);
        due.at("SPEED " + v, x, 0, 0, 0, cruise[1], v);
        return x;
    }

    private static void brakingSpans() {
        due.says("D(v) is v - 2, v - 4, .. together, as long as these are above 0");
        for (int v = 1; v <= 12; v++) {
            due.yes("D(" + v + ") is at most " + D[v], cruising(v, D[v]).aim(0, 1));
            if (D[v] > 0) {
                due.no("D(" + v + ") is more than " + (D[v] - 1), cruising(v, D[v] - 1).aim(0, 1));
            }
        }
        // one that does not stop for anything brakes by 2 a step, and needs just D(v)
        for (int v = 1; v <= 12; v++) {
            RoadDesk x = cruising(v, D[v]);
            x.aim(0, 1);
            Roads.red(x, 1);
            int front = cruise(v)[1];
            for (int speed = Math.max(v - 2, 0); speed >= 0; speed -= 2) {
                front += speed;
                x.run(1);
                due.at("stopping from " + v, x, 0, 0, 0, front, speed);
            }
            x.run(1);
            due.at("stopped from " + v, x, 0, 0, 0, cruise(v)[1] + D[v], 0);
        }
    }

    private static void safeIsAtLeastZero() {
        due.says("A GAP g to what moves with speed w is SAFE for v if g is at least 0 and D(v) at most g + D(w)");
        // car 1, TOP 1, on lane 0; car 0 overtakes it on lane 1, FRONT 19 and SPEED 5 after step 11: D(5) is 4
        for (int size = 4; size <= 5; size++) {
            RoadDesk x = Roads.fork(200);
            x.type(1, 1, 1, size);
            x.car(1, 1, 0, 1);
            x.run(5);
            x.car(0, 0, 0, 2);
            x.run(6);
            due.at("ahead", x, 0, 0, 1, 19, 5);
            due.at("behind", x, 1, 0, 0, 10 + size, 1);
            x.aim(1, 2);
            x.run(1);
            due.is("GAP " + (4 - size), x.of(1, 2), size == 4 ? 1 : 0);
            x.run(1);
            due.is("GAP " + (9 - size), x.of(1, 2), 1);
        }
    }

    private static void aheadIsTheNearest() {
        due.says("AHEAD of a car on a lane is the one with the least FRONT that is more than its own");
        // in whatever order they are numbered
        int[][] orders = {{0, 1, 2, 3}, {3, 2, 1, 0}, {1, 3, 0, 2}};
        for (int[] order : orders) {
            RoadDesk x = Roads.line(1, 60, 50, 50);
            Roads.red(x, 1);
            for (int c : order) {
                x.car(c, 0, 0, 1);
            }
            Roads.run(x, 60);
            for (int i = 0; i < 4; i++) {
                due.at("standing, " + i, x, order[i], 0, 0, 60 - 5 * i, 0);
            }
        }
    }

    private static void gapHasTheSizeAhead() {
        due.says("the GAP is that FRONT, less its SIZE, 1 and the own FRONT");
        for (int size = 3; size <= 8; size++) {
            RoadDesk x = Roads.line(1, 60, 50, 50);
            Roads.red(x, 1);
            x.type(1, 6, 1, size);
            x.type(2, 6, 1, 11 - size);
            x.car(0, 1, 0, 1);
            x.car(1, 2, 0, 1);
            x.car(2, 1, 0, 1);
            Roads.run(x, 60);
            due.at("first", x, 0, 0, 0, 60, 0);
            due.at("second", x, 1, 0, 0, 60 - size - 1, 0);
            due.at("third", x, 2, 0, 0, 60 - size - 1 - (11 - size) - 1, 0);
        }
    }

    private static void aheadIsOnItsLane() {
        due.says("AHEAD of a car on a lane");
        RoadDesk x = Roads.fork(60);
        x.car(0, 0, 0, 1);
        x.run(3);
        x.car(1, 0, 0, 2);
        Roads.run(x, 40);
        due.at("lane 0", x, 0, 0, 0, 60, 0);
        due.at("beside it on lane 1", x, 1, 0, 1, 60, 0);
        // one on the same lane of another edge is not AHEAD either
        RoadDesk y = Roads.line(1, 60, 60, 60);
        Roads.red(y, 1);
        Roads.red(y, 2);
        y.type(1, 1, 1, 4);
        y.car(0, 1, 1, 2);
        y.car(1, 0, 0, 2);
        Roads.run(y, 20);
        due.at("edge 1", y, 0, 1, 0, 23, 1);
        due.at("edge 0", y, 1, 0, 0, 60, 0);
    }

    private static void grantedSeesItsLaneFirst() {
        due.says("If a GRANTED car has none AHEAD on its lane, it is the one with the least FRONT on the lane granted");
        // three standing at the END of edge 0 are GRANTED edge 1 in one step; the first alone can go, by 1
        RoadDesk x = Roads.line(1, 60, 200, 50);
        Roads.red(x, 1);
        for (int c = 0; c < 3; c++) {
            x.car(c, 0, 0, 1);
        }
        Roads.run(x, 50);
        Roads.green(x, 1);
        x.run(1);
        due.at("first", x, 0, 1, 0, 1, 1);
        due.is("second is GRANTED", x.of(1, 5), 1);
        due.at("second", x, 1, 0, 0, 55, 0);
        due.is("third is GRANTED", x.of(2, 5), 1);
        due.at("third", x, 2, 0, 0, 50, 0);
        // then the second has none AHEAD on its lane: up to the first it has 60 - 55 + 1 - 4 - 1
        x.run(1);
        due.at("first", x, 0, 1, 0, 3, 2);
        due.at("second", x, 1, 0, 0, 56, 1);
        due.at("third", x, 2, 0, 0, 50, 0);
    }

    private static void grantedSeesTheLaneBeyond() {
        due.says("the one with the least FRONT on the lane that it was granted, the GAP being the LENGTH of the own edge more");
        // standing on edge 1: FRONT 20 and 15 (SIZE 8), or 20 alone; a third comes up to the last
        for (int standing = 0; standing <= 2; standing++) {
            RoadDesk x = Roads.line(1, 20, 20, 50);
            x.type(1, 6, 1, 8);
            Roads.red(x, 2);
            if (standing > 0) {
                x.car(5, 0, 1, 2);
                Roads.run(x, 20);
            }
            if (standing > 1) {
                x.car(3, 1, 1, 2);
                Roads.run(x, 20);
            }
            x.car(4, 0, 0, 2);
            Roads.run(x, 30);
            int[] front = {20, 15, 6};
            due.at("behind " + standing, x, 4, 1, 0, front[standing], 0);
            due.is("no SPEED fell by more than 2", x.total(5), 0);
        }
        // the edge granted has a lesser number than the own
        RoadDesk w = new RoadDesk();
        w.edge(2, 1, 20, Roads.shape(1, 12, 0));
        w.edge(1, 10, 20, Roads.shape(1, 12, 0));
        w.edge(0, 19, 50, Roads.shape(1, 12, 0));
        Roads.red(w, 2);
        w.car(0, 0, 1, 0);
        Roads.run(w, 20);
        w.car(1, 0, 2, 0);
        w.run(1);
        int[] fronts = {5, 7, 10, 14, 19, 5, 10, 13, 15, 15, 15};
        for (int i = 0; i < fronts.length; i++) {
            w.run(1);
            due.is("edge, step " + (i + 2), w.of(1, 1), i < 5 ? 2 : 1);
            due.is("FRONT, step " + (i + 2), w.of(1, 3), fronts[i]);
        }
        // the other lane of the edge granted is not looked at
        RoadDesk y = Roads.line(2, 20, 20, 50);
        Roads.red(y, 2);
        y.connect(1, 0, 0);
        y.car(0, 0, 1, 2);
        Roads.run(y, 20);
        due.at("on lane 1", y, 0, 1, 1, 20, 0);
        y.connect(1, 0, 4);
        y.car(1, 0, 0, 2);
        Roads.run(y, 20);
        due.at("beside it on lane 0", y, 1, 1, 0, 20, 0);
    }

    private static void othersDoNotSeeBeyond() {
        due.says("If a GRANTED car has none AHEAD on its lane");
        // a tail that stands 3 into edge 0 does not hold back one that is not GRANTED, up to its END
        RoadDesk x = Roads.line(1, 30, 20, 50);
        x.type(1, 6, 1, 8);
        Roads.red(x, 2);
        for (int c = 0; c < 3; c++) {
            x.car(c, 0, 1, 2);
            Roads.run(x, 20);
        }
        x.car(3, 1, 0, 2);
        Roads.run(x, 20);
        due.at("half across", x, 3, 1, 0, 5, 0);
        Roads.red(x, 1);
        x.car(4, 0, 0, 2);
        Roads.run(x, 20);
        due.at("up to its END", x, 4, 0, 0, 30, 0);
        due.is("not GRANTED", x.of(4, 5), -2);
    }

    private static void endOfTheEdge() {
        due.says("an END stands still, the GAP being what is left up to it: for cars not GRANTED, and not on their GOAL");
        RoadDesk x = Roads.line(1, 30, 50, 50);
        Roads.red(x, 1);
        x.car(0, 0, 0, 1);
        int[] front = {4, 5, 7, 10, 14, 19, 24, 28, 30, 30, 30};
        int[] speed = {0, 1, 2, 3, 4, 5, 5, 4, 2, 0, 0};
        for (int i = 0; i < front.length; i++) {
            x.run(1);
            due.at("step " + (i + 1), x, 0, 0, 0, front[i], speed[i]);
        }
        // the one without a NEXT edge as well
        RoadDesk y = Roads.line(1, 30, 50, 50);
        y.car(0, 0, 0, 1);
        y.run(1);
        y.weight(1, -1);
        Roads.run(y, 20);
        due.at("no NEXT edge", y, 0, 0, 0, 30, 0);
    }

    private static void noEndOnTheGoal() {
        due.says("for cars that are not GRANTED, and not on their GOAL");
        RoadDesk x = Roads.line(1, 30, 50, 50);
        Roads.red(x, 1);
        x.car(0, 0, 0, 0);
        x.run(7);
        due.at("SPEED 6, and 5 left", x, 0, 0, 0, 25, 6);
        x.run(1);
        due.is("ARRIVED", x.of(0, 0), 0);
        due.is("ARRIVED", x.total(2), 1);
    }

    private static void endOfTheGrantedEdge() {
        due.says("for one that is granted another edge than its GOAL that of this one");
        // TOP 12, ACCEL 3: up to the END of edge 1 it has 60 + 20 - FRONT
        RoadDesk x = Roads.line(1, 60, 20, 50);
        Roads.red(x, 2);
        x.type(0, 12, 3, 3);
        x.car(0, 0, 0, 2);
        int[] front = {3, 6, 12, 21, 33, 45, 55, 4, 11, 16, 19, 20, 20};
        int[] speed = {0, 3, 6, 9, 12, 12, 10, 9, 7, 5, 3, 1, 0};
        for (int i = 0; i < front.length; i++) {
            x.run(1);
            due.at("step " + (i + 1), x, 0, i < 7 ? 0 : 1, 0, front[i], speed[i]);
        }
    }

    private static void noEndOfTheGoalBeyond() {
        due.says("for one that is granted another edge than its GOAL");
        RoadDesk x = Roads.line(1, 60, 20, 50);
        Roads.red(x, 2);
        x.type(0, 12, 3, 3);
        x.car(0, 0, 0, 1);
        int[] front = {3, 6, 12, 21, 33, 45, 57, 9};
        int[] speed = {0, 3, 6, 9, 12, 12, 12, 12};
        for (int i = 0; i < front.length; i++) {
            x.run(1);
            due.at("step " + (i + 1), x, 0, i < 7 ? 0 : 1, 0, front[i], speed[i]);
        }
        x.run(1);
        due.is("ARRIVED", x.total(2), 1);
    }
}
