/** Promise 17, 'Order and limits'; a desk full of cars; and that no call whatever throws or leaves its answers. */
public final class OrderTest {
    private static final Due due = new Due("OrderTest");
    /** An object is used for at most this many calls. */
    private static final int CALLS = 512;
    private static final int[] ODD = {Integer.MIN_VALUE, Integer.MIN_VALUE + 1, -65536, -100, -2, -1, 0, 1, 2, 7, 8, 15,
        16, 20, 31, 32, 41, 101, 200, 65535, 65536, Integer.MAX_VALUE - 1, Integer.MAX_VALUE};

    public static void main(String[] args) {
        carAddedAnewAfterRemove();
        carAddedAnewAfterItArrived();
        carNotAddedAnew();
        stepsFromComingOn();
        stepsTogether();
        stepsOverSeveralEdges();
        stepsOfOnesAddedAnew();
        wantsByItsOwnTop();
        wantsByItsOwnTopAtSpeed();
        fullOfCars();
        allCalls();
        anyNumbersAtAll();
        due.end();
    }

    /** Car 0, SIZE 8, on lane 1 after it changed there in step 2. */
    private static RoadDesk changed() {
        RoadDesk x = Roads.fork(20);
        x.type(1, 12, 3, 8);
        x.car(0, 1, 0, 1);
        x.run(1);
        x.aim(0, 2);
        x.run(1);
        due.is("changed in step 2", x.of(0, 2), 1);
        due.is("changes", x.total(3), 1);
        return x;
    }

    private static void changesAnew(RoadDesk x) {
        due.yes("added anew", x.car(0, 1, 0, 1));
        x.run(1);
        due.is("ON lane 0 again", x.of(0, 2), 0);
        x.aim(0, 2);
        x.run(1);
        due.is("changes at once", x.of(0, 2), 1);
        due.is("changes", x.total(3), 2);
    }

    private static void carAddedAnewAfterRemove() {
        due.says("a car that is added anew (also after remove ..) has not changed lanes yet");
        RoadDesk x = changed();
        x.remove(0);
        changesAnew(x);
    }

    private static void carAddedAnewAfterItArrived() {
        due.says("a car that is added anew (.. or when it ARRIVED) has not changed lanes yet");
        // FRONT 11 with SPEED 3, then 17 with 6, then beyond the END in step 4
        RoadDesk x = changed();
        x.aim(0, 0);
        x.run(2);
        due.is("ARRIVED", x.total(2), 1);
        changesAnew(x);
    }

    private static void carNotAddedAnew() {
        due.says("a car that is added anew");
        RoadDesk x = changed();
        due.no("refused", x.car(0, 1, 0, 1));
        x.aim(0, 1);
        x.run(4);
        due.is("not so soon again", x.of(0, 2), 1);
        x.run(1);
        due.is("in step 7", x.of(0, 2), 0);
    }

    private static void stepsFromComingOn() {
        due.says("for each car that ARRIVED the number of the step in which it did, less that .. in which it came ON");
        // FRONT 4, 5, 7, 10, 14, 19, 25: ON in the first of these steps, beyond 20 six steps later
        for (int before = 0; before <= 13; before += 13) {
            RoadDesk x = new RoadDesk();
            x.edge(0, 1, 20, Roads.shape(1, 12, 0));
            x.run(before);
            x.car(0, 0, 0, 0);
            x.run(6);
            due.is("not ARRIVED", x.total(6), 0);
            x.run(1);
            due.is("ARRIVED", x.total(2), 1);
            due.is("steps", x.total(6), 6);
        }
        // the steps of WAITING do not count
        RoadDesk y = new RoadDesk();
        y.edge(0, 1, 20, Roads.shape(1, 12, 0));
        y.weight(0, -1);
        y.car(0, 0, 0, 0);
        y.run(10);
        y.weight(0, 0);
        y.run(7);
        due.is("after WAITING", y.total(6), 6);
        // those of one that was removed do not either
        RoadDesk z = new RoadDesk();
        z.edge(0, 1, 20, Roads.shape(1, 12, 0));
        z.car(0, 0, 0, 0);
        z.run(5);
        z.remove(0);
        z.run(5);
        due.is("removed", z.total(6), 0);
    }

    private static void stepsTogether() {
        due.says("the steps of those that ARRIVED from coming ON, together");
        RoadDesk x = new RoadDesk();
        x.edge(0, 1, 20, Roads.shape(1, 12, 0));
        x.edge(1, 8, 40, Roads.shape(1, 12, 0));
        x.run(13);
        // beyond 20 in step 20; beyond 40 (4 .. 37, 43) three steps later
        x.car(0, 0, 0, 0);
        x.car(1, 0, 1, 1);
        x.run(6);
        due.is("none ARRIVED", x.total(6), 0);
        x.run(1);
        due.is("one ARRIVED", x.total(6), 6);
        x.run(2);
        due.is("one ARRIVED", x.total(6), 6);
        x.run(1);
        due.is("both ARRIVED", x.total(6), 6 + 9);
        due.is("both ARRIVED", x.total(2), 2);
    }

    private static void stepsOverSeveralEdges() {
        due.says("less that of the step in which it came ON");
        // ON in step 1; FRONT 25 after step 7, 6 a step from then on: beyond 30 + 40 + 20 in step 18
        RoadDesk x = Roads.line(1, 30, 40, 20);
        x.car(0, 0, 0, 2);
        x.run(17);
        due.at("near the end", x, 0, 2, 0, 85 - 70, 6);
        due.is("not ARRIVED", x.total(6), 0);
        x.run(1);
        due.is("ARRIVED", x.total(6), 17);
    }

    private static void stepsOfOnesAddedAnew() {
        due.says("for each car that ARRIVED");
        RoadDesk x = new RoadDesk();
        x.edge(0, 1, 20, Roads.shape(1, 12, 0));
        for (int time = 1; time <= 5; time++) {
            x.car(7, 0, 0, 0);
            x.run(7);
            due.is("ARRIVED " + time, x.total(2), time);
            due.is("steps " + time, x.total(6), 6 * time);
        }
    }

    private static void wantsByItsOwnTop() {
        due.says("in WANTS the TOP is that of the car that wants to change, not of the one AHEAD");
        // the one AHEAD has SPEED 1 and TOP 1: its own TOP would let none change
        for (int top = 1; top <= 2; top++) {
            RoadDesk x = Roads.slowOne(top);
            due.at("ON behind it", x, 1, 0, 0, 4, 0);
            due.is("SPEED AHEAD", x.of(0, 4), 1);
            x.run(1);
            due.is("own TOP " + top, x.of(1, 2), top == 1 ? 0 : 1);
        }
    }

    private static void wantsByItsOwnTopAtSpeed() {
        due.says("in WANTS the TOP is that of the car that wants to change, not of the one AHEAD");
        // the one AHEAD has TOP 12, and SPEED 3 by the LIMIT: its TOP would let all change
        for (int top = 2; top <= 5; top++) {
            RoadDesk x = new RoadDesk();
            x.edge(0, 1, 200, Roads.shape(2, 3, 0));
            x.edge(1, 10, 50, Roads.shape(2, 3, 0));
            x.connect(0, 1, 0);
            Roads.red(x, 1);
            x.type(1, 12, 1, 4);
            x.type(2, top, 1, 4);
            x.car(0, 1, 0, 1);
            x.car(1, 2, 0, 1);
            x.run(8);
            due.is("SPEED AHEAD", x.of(0, 4), 3);
            due.is("lane", x.of(1, 2), 0);
            x.connect(0, 1, 2);
            x.run(1);
            due.is("own TOP " + top, x.of(1, 2), top > 3 ? 1 : 0);
        }
    }

    private static void fullOfCars() {
        due.says("CARS 0..31");
        RoadDesk x = new RoadDesk();
        for (int e = 0; e < 16; e++) {
            int from = e % 8;
            int to = e < 8 ? (from + 1) % 8 : (from + 3) % 8;
            due.yes("edge " + e, x.edge(e, 8 * from + to, 20 + e, Roads.shape(1 + e % 2, 12, e % 4)));
        }
        for (int c = 0; c < 32; c++) {
            due.yes("car " + c, x.car(c, c % 4, c % 16, (5 * c + 7) % 16));
        }
        due.no("all are there", x.car(0, 0, 0, 0));
        for (int i = 0; i < 60; i++) {
            due.is("run", x.run(20), 20);
        }
        int left = 0;
        for (int c = 0; c < 32; c++) {
            left += x.of(c, 0) == 0 ? 0 : 1;
        }
        due.is("all are somewhere", left + x.total(2), 32);
        due.is("no SPEED fell by more than 2", x.total(5), 0);
        due.is("steps", x.total(0), 1200);
    }

    private static void allCalls() {
        due.says("An object is used for at most 512 calls after it has been made");
        RoadDesk x = Roads.line(1, 20, 50, 50);
        x.type(0, 12, 3, 3);
        // FRONT 3, 6, 12, 21: each car anew ARRIVES three steps after it came ON
        for (int i = 0; i < (CALLS - 6) / 2; i++) {
            x.car(i % 32, 0, 0, 0);
            x.run(4);
        }
        due.is("the 511th: ARRIVED", x.total(2), 253);
        due.is("the 512th: STEPS", x.total(6), 3 * 253);
    }

    /** What is due is that none of these throws or fails to end. */
    private static void anyNumbersAtAll() {
        due.says("(any arguments in any state)");
        int calls = CALLS;
        RoadDesk x = null;
        long made = 0;
        for (int a : ODD) {
            for (int b : ODD) {
                for (int c : ODD) {
                    for (int d : ODD) {
                        if (calls > CALLS - 8) {
                            x = made % 2 == 0 ? Twins.quiet() : Twins.busy();
                            calls = 40;
                            made++;
                        }
                        x.edge(a, b, c, d);
                        x.phase(a, b, c, d);
                        x.type(a, b, c, d);
                        x.car(a, b, c, d);
                        calls += 4;
                    }
                }
            }
        }
        for (int a : ODD) {
            for (int b : ODD) {
                x = Twins.busy();
                x.weight(a, b);
                x.aim(a, b);
                x.of(a, b);
                x.road(a, b);
                x.junction(a, b);
                x.remove(a);
                x.run(a);
                x.total(a);
                for (int c : ODD) {
                    x.connect(a, b, c);
                    x.lane(a, b, c);
                    x.way(a, b, c);
                }
                due.is("still runs", x.run(20), 20);
            }
        }
    }
}
