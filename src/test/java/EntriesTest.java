/** A STEP's ENTRIES. */
public final class EntriesTest {
    private static final Due due = new Due("EntriesTest");

    public static void main(String[] args) {
        byEdges();
        theFirstOneAlone();
        inTheOrderOfTheirCalls();
        openEdges();
        leastLaneThatLeads();
        laneZeroOfTheGoal();
        noneGrantedThatLane();
        roomBehindTheLast();
        theLeastFront();
        theSizeAhead();
        frontAndSpeed();
        justThatLane();
        withoutANextEdge();
        entriesComeLast();
        due.end();
    }

    private static void state(String when, RoadDesk x, int c, int state) {
        due.is(when + ": state of car " + c, x.of(c, 0), state);
    }

    private static void byEdges() {
        due.says("ENTRIES, by edges: the first one WAITING for an OPEN edge comes ON");
        // one of two for each of the sixteen edges in one step
        RoadDesk x = new RoadDesk();
        for (int e = 0; e < 16; e++) {
            x.edge(e, e % 2 == 0 ? 1 : 8, 100, Roads.shape(1, 12, 0));
        }
        for (int c = 0; c < 32; c++) {
            x.car(c, 0, c % 16, c % 16);
        }
        x.run(1);
        for (int c = 0; c < 32; c++) {
            state("in one step", x, c, c < 16 ? 2 : 1);
        }
        due.is("came ON", x.total(1), 16);
        x.run(3);
        due.is("came ON", x.total(1), 32);
    }

    private static void theFirstOneAlone() {
        due.says("the first one WAITING for an OPEN edge");
        // lane 1 is free for the second, but the first waits for lane 0
        RoadDesk x = Roads.fork(60);
        x.car(0, 0, 0, 1);
        x.car(1, 0, 0, 1);
        x.car(2, 0, 0, 2);
        x.run(3);
        state("on lane 0", x, 0, 2);
        state("no room yet", x, 1, 1);
        state("behind it", x, 2, 1);
        x.run(1);
        state("room", x, 1, 2);
        state("one at a time", x, 2, 1);
        x.run(1);
        state("on lane 1", x, 2, 2);
        due.is("lane", x.of(2, 2), 1);
    }

    private static void inTheOrderOfTheirCalls() {
        due.says("is WAITING for an edge, behind those that are");
        int[][] orders = {{0, 1, 2, 3}, {31, 17, 4, 0}, {5, 30, 6, 29}};
        for (int[] order : orders) {
            RoadDesk x = Roads.line(1, 200, 50, 50);
            for (int c : order) {
                x.car(c, 0, 0, 0);
            }
            // 4 .. 10 until there is room for the next
            for (int i = 0; i < 4; i++) {
                x.run(i == 0 ? 1 : 3);
                due.is("the last that came ON", x.lane(0, 0, i), order[i]);
                due.is("WAITING", x.road(0, 1), 3 - i);
            }
        }
        // one that is removed and added anew is the last; aim does not change its place
        RoadDesk y = Roads.line(1, 200, 50, 50);
        y.car(7, 0, 0, 0);
        y.car(3, 0, 0, 0);
        y.car(9, 0, 0, 0);
        y.remove(7);
        y.car(7, 0, 0, 0);
        y.aim(3, 1);
        y.aim(9, 2);
        int[] order = {3, 9, 7};
        for (int i = 0; i < 3; i++) {
            y.run(i == 0 ? 1 : 3);
            due.is("after remove", y.lane(0, 0, i), order[i]);
        }
    }

    private static void openEdges() {
        due.says("WAITING for an OPEN edge");
        RoadDesk x = Roads.line(1, 50, 50, 50);
        x.weight(0, -1);
        x.car(0, 0, 0, 1);
        x.car(1, 0, 1, 1);
        x.run(10);
        state("CLOSED", x, 0, 1);
        state("another edge", x, 1, 2);
        x.weight(0, 5);
        x.run(1);
        state("OPEN", x, 0, 2);
        // a CLOSED edge can be left, and driven to its END
        x.weight(0, -1);
        x.run(15);
        due.is("left", x.of(0, 1), 1);
        // the GOAL being the CLOSED edge as well
        RoadDesk y = Roads.line(1, 50, 50, 50);
        y.weight(0, -1);
        y.car(0, 0, 0, 0);
        y.run(10);
        state("CLOSED, its GOAL", y, 0, 1);
    }

    private static void leastLaneThatLeads() {
        due.says("comes ON the least lane that leads to its NEXT edge");
        int[][] cases = {{2, 2, 0}, {2, 4, 0}, {4, 2, 1}, {0, 2, 1}, {6, 6, 0}, {4, 6, 1}};
        for (int[] k : cases) {
            RoadDesk x = Roads.fork(60);
            x.connect(0, 0, k[0]);
            x.connect(0, 1, k[1]);
            x.car(0, 0, 0, 1);
            x.run(1);
            due.at("MASKS " + k[0] + " and " + k[1], x, 0, 0, k[2], 4, 0);
        }
        // its NEXT edge, not its GOAL
        RoadDesk y = Roads.fork(60);
        y.edge(3, 28, 50, Roads.shape(1, 12, 0));
        y.connect(0, 0, 2 + 8);
        y.car(0, 0, 0, 3);
        y.run(1);
        due.at("by edge 2", y, 0, 0, 1, 4, 0);
    }

    private static void laneZeroOfTheGoal() {
        due.says("(if the edge is its GOAL lane 0)");
        int[][] masks = {{65535, 65535}, {0, 65535}, {0, 0}};
        for (int[] k : masks) {
            RoadDesk x = Roads.fork(60);
            x.connect(0, 0, k[0]);
            x.connect(0, 1, k[1]);
            x.car(0, 0, 0, 0);
            x.run(1);
            due.at("MASKS " + k[0] + " and " + k[1], x, 0, 0, 0, 4, 0);
        }
    }

    private static void noneGrantedThatLane() {
        due.says("if no car is GRANTED that lane");
        // car 0 from edge 0 is GRANTED lane 0 or 1 of edge 1; car 1 is to come ON lane 0 there
        for (int lane = 0; lane < 2; lane++) {
            RoadDesk x = Roads.line(2, 40, 50, 50);
            x.connect(0, 1 - lane, 0);
            x.type(1, 1, 1, 4);
            x.car(0, 1, 0, 2);
            x.run(2);
            due.is("GRANTED", x.of(0, 5), 1);
            x.car(1, 0, 1, 2);
            x.run(1);
            state("lane " + lane + " is GRANTED", x, 1, lane == 0 ? 1 : 2);
            x.remove(0);
            x.run(1);
            state("none is", x, 1, 2);
        }
        // on its GOAL, too; and until the GRANTED one is across and far enough: FRONT 1, 7, 13 in steps 8, 9, 10
        RoadDesk y = Roads.line(1, 30, 50, 50);
        y.car(0, 0, 0, 2);
        y.run(2);
        y.car(1, 0, 1, 1);
        y.run(6);
        due.at("across", y, 0, 1, 0, 1, 6);
        state("FRONT 1", y, 1, 1);
        y.run(1);
        state("FRONT 7", y, 1, 1);
        y.run(1);
        state("FRONT 13", y, 1, 2);
    }

    private static void roomBehindTheLast() {
        due.says("the least FRONT there, less that one's SIZE and 1, is not below the own SIZE");
        // SPEED 1 and SIZE 4: FRONT 3 + n after step n; there is room from FRONT 5 + the own SIZE on
        for (int size = 3; size <= 8; size++) {
            RoadDesk x = Roads.line(1, 60, 50, 50);
            x.type(1, 1, 1, 4);
            x.type(2, 6, 1, size);
            x.car(0, 1, 0, 0);
            x.car(1, 2, 0, 0);
            x.run(1 + size);
            due.at("SIZE " + size, x, 0, 0, 0, 4 + size, 1);
            state("SIZE " + size + ", 1 too few", x, 1, 1);
            x.run(1);
            state("SIZE " + size, x, 1, 2);
        }
    }

    private static void theLeastFront() {
        due.says("the least FRONT there");
        // standing at 20, 15, 10: that the first ones are far off does not make room
        int[] lasts = {0, 10};
        for (int number : lasts) {
            RoadDesk x = Roads.line(1, 20, 50, 50);
            Roads.red(x, 1);
            x.car(5, 0, 0, 1);
            x.car(number, 0, 0, 1);
            x.car(7, 0, 0, 1);
            Roads.run(x, 40);
            due.at("the last", x, 7, 0, 0, 10, 0);
            x.car(8, 0, 0, 1);
            x.run(1);
            state("GAP of 5 and SIZE 4", x, 8, 2);
            x.run(10);
            due.at("right behind it", x, 8, 0, 0, 5, 0);
            x.car(9, 0, 0, 1);
            x.run(10);
            state("no room", x, 9, 1);
            x.remove(7);
            x.run(1);
            state("the last is still there", x, 9, 1);
        }
    }

    private static void theSizeAhead() {
        due.says("less that one's SIZE and 1");
        // all stand still: FRONT 20 of a car with SIZE 8 to 3 leaves 11 to 16; then one with SIZE 8 leaves 2 to 7
        for (int size = 3; size <= 8; size++) {
            for (int own = 3; own <= 8; own++) {
                RoadDesk x = Roads.line(1, 20, 50, 50);
                Roads.red(x, 1);
                x.type(1, 6, 1, size);
                x.type(2, 6, 1, 8);
                x.type(3, 6, 1, own);
                x.car(0, 1, 0, 1);
                x.car(1, 2, 0, 1);
                Roads.run(x, 40);
                due.at("second", x, 1, 0, 0, 20 - size - 1, 0);
                x.car(2, 3, 0, 1);
                x.run(1);
                state("SIZE " + size + " and own " + own, x, 2, 20 - size - 1 - 8 - 1 >= own ? 2 : 1);
            }
        }
    }

    private static void frontAndSpeed() {
        due.says("its FRONT is its SIZE, its SPEED 0");
        for (int size = 3; size <= 8; size++) {
            RoadDesk x = Roads.line(1, 60, 50, 50);
            x.type(1, 12, 3, size);
            x.car(0, 1, 0, 0);
            x.run(1);
            due.at("SIZE " + size, x, 0, 0, 0, size, 0);
            // also of a number that had another FRONT and SPEED
            x.run(4);
            x.remove(0);
            x.car(0, 1, 0, 0);
            x.run(1);
            due.at("SIZE " + size + " anew", x, 0, 0, 0, size, 0);
        }
    }

    private static void justThatLane() {
        due.says("(Just that lane is looked at");
        // both lanes lead, and lane 1 is free, but lane 0 is looked at alone; a car on lane 1 does not matter
        RoadDesk x = Roads.fork(60);
        x.connect(0, 1, 6);
        x.car(0, 0, 0, 1);
        x.car(1, 0, 0, 1);
        x.run(3);
        state("lane 0 has no room", x, 1, 1);
        x.connect(0, 0, 0);
        x.run(1);
        due.at("lane 1 is the least that leads", x, 1, 0, 1, 4, 0);
        RoadDesk y = Roads.fork(60);
        y.type(1, 1, 1, 8);
        y.car(0, 1, 0, 2);
        y.car(1, 0, 0, 1);
        y.run(2);
        due.at("lane 1", y, 0, 0, 1, 9, 1);
        due.at("lane 0 is free", y, 1, 0, 0, 4, 0);
        // on its GOAL lane 0 alone
        RoadDesk z = Roads.fork(60);
        z.car(0, 0, 0, 0);
        z.car(1, 0, 0, 0);
        z.run(3);
        state("on its GOAL", z, 1, 1);
    }

    private static void withoutANextEdge() {
        due.says("without a NEXT edge it waits on.)");
        RoadDesk x = Roads.line(2, 50, 50, 50);
        x.car(0, 0, 1, 0);
        x.car(1, 0, 1, 1);
        x.run(10);
        state("no way", x, 0, 1);
        state("behind it", x, 1, 1);
        due.is("WAITING", x.road(1, 1), 2);
        x.aim(0, 2);
        x.run(1);
        state("a way", x, 0, 2);
        state("behind it", x, 1, 1);
        // the one before it being removed, the next one is the first
        RoadDesk y = Roads.line(2, 50, 50, 50);
        y.car(0, 0, 1, 0);
        y.car(1, 0, 1, 1);
        y.run(3);
        y.remove(0);
        y.run(1);
        state("the first now", y, 1, 2);
        // of the only lane of an edge with number 0 or 15
        for (int e = 0; e < 16; e += 15) {
            RoadDesk z = new RoadDesk();
            z.edge(e, 1, 50, Roads.shape(1, 12, 0));
            z.edge(7, 10, 50, Roads.shape(1, 12, 0));
            z.connect(e, 0, 0);
            z.car(0, 0, e, 7);
            z.run(3);
            state("edge " + e + " leads nowhere", z, 0, 1);
        }
    }

    private static void entriesComeLast() {
        due.says("A STEP does this, in order: .. MOVES .. ENTRIES");
        RoadDesk x = Roads.line(1, 50, 50, 50);
        x.car(0, 0, 0, 0);
        x.car(1, 0, 0, 0);
        x.run(1);
        due.at("not moved in the step in which it comes ON", x, 0, 0, 0, 4, 0);
        // FRONT 10 comes about in step 4, and there is room in the same step
        x.run(2);
        due.at("step 3", x, 0, 0, 0, 7, 2);
        state("step 3", x, 1, 1);
        x.run(1);
        due.at("step 4", x, 0, 0, 0, 10, 3);
        due.at("step 4", x, 1, 0, 0, 4, 0);
        // one that ARRIVES makes room in the same step: FRONT 19, then beyond 20
        RoadDesk y = Roads.line(1, 20, 50, 50);
        y.type(0, 1, 1, 8);
        y.car(0, 0, 0, 0);
        y.run(13);
        due.at("at the LENGTH", y, 0, 0, 0, 20, 1);
        y.car(1, 0, 0, 0);
        y.run(1);
        state("ARRIVED", y, 0, 0);
        state("came ON", y, 1, 2);
    }
}
