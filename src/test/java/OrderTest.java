/** Promise 17, 'Order and limits', and that no call whatever throws or leaves its answers. */
public final class OrderTest {
    private static final Due due = new Due("OrderTest");

    public static void main(String[] args) {
        carAddedAnewMayChangeLanes(false);
        carAddedAnewMayChangeLanes(true);
        totalOfStepsIsTogether();
        wantsByItsOwnTop();
        fullOfCars();
        anyNumbersAtAll();
        due.end();
    }

    private static void carAddedAnewMayChangeLanes(boolean arrives) {
        RoadDesk x = Roads.fork(20);
        x.type(1, 12, 3, 8);
        x.car(0, 1, 0, 1);
        x.run(1);
        x.aim(0, 2);
        x.run(1);
        due.is("changed in step 2", x.of(0, 2), 1);
        if (arrives) {
            // FRONT 11 with SPEED 3, then 17 with 6, then beyond the END in step 4
            x.aim(0, 0);
            x.run(2);
            due.is("ARRIVED", x.total(2), 1);
        } else {
            x.remove(0);
        }
        x.car(0, 1, 0, 1);
        x.run(1);
        due.is("ON lane 0 again", x.of(0, 2), 0);
        x.aim(0, 2);
        x.run(1);
        due.is("changes at once", x.of(0, 2), 1);
        due.is("changes", x.total(3), 2);
    }

    private static void totalOfStepsIsTogether() {
        RoadDesk x = new RoadDesk();
        x.edge(0, 1, 20, Roads.shape(1, 12, 0));
        x.edge(1, 8, 40, Roads.shape(1, 12, 0));
        x.run(13);
        // FRONT 4, 5, 7, 10, 14, 19, 25: ON in step 14, beyond 20 in step 20; beyond 40 (4 .. 37, 43) three steps later
        x.car(0, 0, 0, 0);
        x.car(1, 0, 1, 1);
        x.run(6);
        due.is("none ARRIVED", x.total(6), 0);
        x.run(1);
        due.is("one ARRIVED", x.total(6), 6);
        x.run(3);
        due.is("both ARRIVED", x.total(6), 6 + 9);
        due.is("both ARRIVED", x.total(2), 2);
        // the steps of WAITING don't count
        x.weight(0, -1);
        x.car(0, 0, 0, 0);
        x.run(10);
        x.weight(0, 0);
        x.run(7);
        due.is("a third", x.total(6), 6 + 9 + 6);
    }

    private static void wantsByItsOwnTop() {
        // the one AHEAD has SPEED 1 and TOP 1: its own TOP would let none change
        for (int top = 1; top <= 2; top++) {
            RoadDesk x = Roads.slowOne(top);
            due.at("ON behind it", x, 1, 0, 0, 4, 0);
            due.is("SPEED AHEAD", x.of(0, 4), 1);
            x.run(1);
            due.is("own TOP " + top, x.of(1, 2), top == 1 ? 0 : 1);
        }
    }

    private static void fullOfCars() {
        RoadDesk x = new RoadDesk();
        for (int e = 0; e < 16; e++) {
            int from = e % 8;
            int to = e < 8 ? (from + 1) % 8 : (from + 3) % 8;
            due.yes("edge " + e, x.edge(e, 8 * from + to, 20 + e, Roads.shape(1 + e % 2, 12, e % 4)));
        }
        for (int c = 0; c < 32; c++) {
            due.yes("car " + c, x.car(c, c % 4, c % 16, (5 * c + 7) % 16));
        }
        due.no("all are there", x.car(0, 0, 0, 0));
        for (int i = 0; i < 60; i++) {
            due.is("run", x.run(20), 20);
        }
        int left = 0;
        for (int c = 0; c < 32; c++) {
            left += x.of(c, 0) == 0 ? 0 : 1;
        }
        due.is("all are somewhere", left + x.total(2), 32);
        due.is("no SPEED fell by more than 2", x.total(5), 0);
        due.is("steps", x.total(0), 1200);
    }

    private static void anyNumbersAtAll() {
        int[] odd = {Integer.MIN_VALUE, Integer.MIN_VALUE + 1, -65536, -100, -2, -1, 0, 1, 2, 7, 8, 15, 16, 20, 31, 32,
            41, 101, 200, 65535, 65536, Integer.MAX_VALUE - 1, Integer.MAX_VALUE};
        RoadDesk x = new RoadDesk();
        for (int a : odd) {
            for (int b : odd) {
                for (int c : odd) {
                    for (int d : odd) {
                        x.edge(a, b, c, d);
                        x.phase(a, b, c, d);
                        x.type(a, b, c, d);
                    }
                    x.connect(a, b, c);
                    x.lane(a, b, c);
                    x.way(a, b, c);
                }
                x.weight(a, b);
                x.aim(a, b);
                x.of(a, b);
                x.road(a, b);
                x.junction(a, b);
            }
            x.remove(a);
            x.run(a);
            x.total(a);
        }
        for (int a : odd) {
            for (int b : odd) {
                for (int c : odd) {
                    for (int d : odd) {
                        x.car(a, b, c, d);
                    }
                }
            }
        }
        x.run(20);
        due.is("edges with numbers like these", x.road(15, 0) >= 0 ? 1 : 0, 1);
    }
}
