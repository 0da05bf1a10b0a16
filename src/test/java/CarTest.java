/** Promises 7 to 9: car, aim, remove. */
public final class CarTest {
    private static final Due due = new Due("CarTest");
    private static final int MIN = Integer.MIN_VALUE, MAX = Integer.MAX_VALUE;

    public static void main(String[] args) {
        carTakesItsNumbers();
        carsWaitInTheirOrder();
        carHasItsOwnNumberInZ();
        aimTakesItsNumbers();
        aimNeedsRoomToStop();
        aimNotOfGrantedOnes();
        aimOfWaitingOnes();
        removeTakesCarsOff();
        removeSetsJunctionsFree();
        due.end();
    }

    private static void carTakesItsNumbers() {
        RoadDesk x = Roads.line(1, 50, 50, 50);
        int[][] bad = {{-1, 0, 0, 0}, {32, 0, 0, 0}, {MIN, 0, 0, 0}, {MAX, 0, 0, 0}, {0, -1, 0, 0}, {0, 4, 0, 0},
            {0, MIN, 0, 0}, {0, MAX, 0, 0}, {0, 0, -1, 0}, {0, 0, 3, 0}, {0, 0, 16, 0}, {0, 0, MIN, 0}, {0, 0, MAX, 0},
            {0, 0, 0, -1}, {0, 0, 0, 3}, {0, 0, 0, 16}, {0, 0, 0, MIN}, {0, 0, 0, MAX}};
        for (int[] b : bad) {
            due.no("car " + b[0] + " " + b[1] + " " + b[2] + " " + b[3], x.car(b[0], b[1], b[2], b[3]));
        }
        due.is("still NONE", x.of(0, 0), 0);
        due.yes("the first", x.car(0, 0, 0, 2));
        due.yes("the last", x.car(31, 3, 1, 1));
        due.is("WAITING", x.of(0, 0), 1);
        due.is("its edge", x.of(0, 1), 0);
        due.is("its GOAL", x.of(0, 6), 2);
        due.is("its NEXT edge", x.of(0, 7), 1);
        due.is("WAITING on its GOAL", x.of(31, 7), -2);
        due.no("one WAITING", x.car(0, 0, 1, 2));
        x.run(1);
        due.no("one ON", x.car(0, 0, 1, 2));
        due.is("refused: as it was", x.of(0, 1), 0);
        x.remove(0);
        due.yes("anew", x.car(0, 0, 1, 2));
        due.is("anew: its edge", x.of(0, 1), 1);
        x.weight(2, -1);
        due.yes("for a CLOSED edge", x.car(1, 0, 2, 2));
        due.yes("with no way to its GOAL", x.car(2, 0, 2, 0));
    }

    private static void carsWaitInTheirOrder() {
        RoadDesk x = Roads.line(1, 100, 50, 50);
        x.type(1, 12, 3, 4);
        int[] order = {7, 3, 20};
        for (int c : order) {
            x.car(c, 1, 0, 0);
        }
        x.car(9, 1, 1, 1);
        x.remove(7);
        x.car(7, 1, 0, 0);
        due.is("three WAITING", x.road(0, 1), 3);
        x.run(1);
        due.is("3 stands first now", x.of(3, 0), 2);
        due.is("another edge", x.of(9, 0), 2);
        due.is("one at a time", x.road(0, 0), 1);
        x.run(2);
        due.is("20 behind it: FRONT 4 + 3 + 6", x.of(20, 0), 2);
        due.is("7 not yet", x.of(7, 0), 1);
        x.run(5);
        due.is("7 last", x.of(7, 0), 2);
        due.is("in lane order", x.lane(0, 0, 2), 7);
    }

    /** The draws were worked out apart from the program, by z as the document tells it. */
    private static void carHasItsOwnNumberInZ() {
        int[][] speeds = new int[32][30];
        for (int c = 0; c < 32; c += 31) {
            int z = 12345 + c;
            int v = 0;
            for (int i = 0; i < 30; i++) {
                z = z * 1103515245 + 12345;
                int u = Math.min(v + 1, 3);
                if (u - 1 >= v - 2 && (z >>> 16) % 10 < 5) {
                    u--;
                }
                v = u;
                speeds[c][i] = v;
            }
            for (int again = 0; again < 2; again++) {
                RoadDesk x = Roads.line(1, 200, 50, 50);
                x.type(1, 3, 1, 54);
                x.run(again * 5);
                x.car(c, 1, 0, 0);
                x.run(3 * again);
                x.remove(c);
                x.car(c, 1, 0, 0);
                x.run(1);
                for (int i = 0; i < 30; i++) {
                    x.run(1);
                    due.is("car " + c + " dawdles, step " + i, x.of(c, 4), speeds[c][i]);
                }
            }
        }
    }

    private static void aimTakesItsNumbers() {
        RoadDesk x = Roads.line(1, 50, 50, 50);
        due.no("car NONE", x.aim(0, 1));
        x.car(0, 0, 0, 2);
        int[][] bad = {{-1, 0}, {32, 0}, {MIN, 0}, {MAX, 0}, {1, 0}, {0, -1}, {0, 3}, {0, 16}, {0, MIN}, {0, MAX}};
        for (int[] b : bad) {
            due.no("aim " + b[0] + " " + b[1], x.aim(b[0], b[1]));
        }
        due.is("refused: as it was", x.of(0, 6), 2);
        due.yes("WAITING", x.aim(0, 1));
        due.is("new GOAL", x.of(0, 6), 1);
        x.run(1);
        due.yes("ON", x.aim(0, 2));
        due.is("new GOAL", x.of(0, 6), 2);
        due.yes("to where it is", x.aim(0, 0));
        due.is("no NEXT edge there", x.of(0, 7), -2);
    }

    private static void aimNeedsRoomToStop() {
        // FRONT 4, 5, 7, 10, 14, 19, 25, 31, .. with SPEED 0, 1, 2, 3, 4, 5, 6, 6, ..; D(6) is 6
        RoadDesk far = Roads.line(1, 31, 50, 50);
        far.car(0, 0, 0, 0);
        far.run(7);
        due.at("6 up to the END", far, 0, 0, 0, 25, 6);
        due.yes("just room enough", far.aim(0, 2));
        due.yes("back", far.aim(0, 0));
        RoadDesk near = Roads.line(1, 30, 50, 50);
        near.car(0, 0, 0, 0);
        near.run(7);
        due.at("5 up to the END", near, 0, 0, 0, 25, 6);
        due.no("too near", near.aim(0, 2));
        due.is("too near: GOAL stays", near.of(0, 6), 0);
        due.yes("the same edge", near.aim(0, 0));
        RoadDesk waits = Roads.line(1, 30, 50, 50);
        waits.car(0, 0, 0, 0);
        due.yes("one WAITING needs none", waits.aim(0, 1));
    }

    private static void aimNotOfGrantedOnes() {
        RoadDesk x = Roads.line(1, 30, 50, 50);
        x.car(0, 0, 0, 2);
        x.run(2);
        due.is("GRANTED", x.of(0, 5), 1);
        due.no("GRANTED", x.aim(0, 1));
        due.no("GRANTED, the same", x.aim(0, 2));
        x.run(7);
        due.is("over", x.of(0, 1), 1);
        due.is("not GRANTED any more", x.of(0, 5), -2);
        due.yes("not GRANTED any more", x.aim(0, 1));
    }

    private static void aimOfWaitingOnes() {
        RoadDesk x = Roads.line(1, 50, 50, 50);
        x.car(0, 0, 1, 0);
        x.car(1, 0, 1, 1);
        x.run(3);
        due.is("no way to its GOAL: waits on", x.of(0, 0), 1);
        due.is("and the one behind it", x.of(1, 0), 1);
        due.yes("to another GOAL", x.aim(0, 2));
        x.run(1);
        due.is("keeps its place", x.of(0, 0), 2);
        due.is("one at a time", x.of(1, 0), 1);
    }

    private static void removeTakesCarsOff() {
        RoadDesk x = Roads.line(1, 50, 50, 50);
        int[] bad = {-1, 32, 0, 31, MIN, MAX};
        for (int c : bad) {
            due.no("remove " + c, x.remove(c));
        }
        x.car(0, 0, 0, 2);
        x.car(1, 0, 0, 2);
        x.run(1);
        due.yes("one ON", x.remove(0));
        due.yes("one WAITING", x.remove(1));
        due.no("already", x.remove(0));
        for (int c = 0; c < 2; c++) {
            due.is("NONE", x.of(c, 0), 0);
            for (int what = 1; what < 8; what++) {
                due.is("NONE " + what, x.of(c, what), -2);
            }
        }
        due.is("none ON", x.road(0, 0), 0);
        due.is("none WAITING", x.road(0, 1), 0);
        due.is("none on the lane", x.lane(0, 0, 0), -2);
        x.car(2, 0, 0, 0);
        x.run(20);
        due.is("ARRIVED", x.total(2), 1);
        due.no("one that ARRIVED", x.remove(2));
    }

    private static void removeSetsJunctionsFree() {
        RoadDesk x = Roads.line(1, 22, 50, 50);
        x.car(0, 0, 0, 2);
        x.run(2);
        due.is("HELD", x.junction(1, 2), 1);
        x.remove(0);
        due.is("not HELD", x.junction(1, 2), 0);
        x.car(0, 0, 0, 2);
        x.run(7);
        due.at("across", x, 0, 1, 0, 3, 6);
        due.is("HELD across", x.junction(1, 2), 1);
        x.remove(0);
        due.is("not HELD", x.junction(1, 2), 0);
        x.car(0, 0, 1, 2);
        x.run(1);
        due.is("not HELD by one that came ON", x.junction(1, 2), 0);
    }
}
