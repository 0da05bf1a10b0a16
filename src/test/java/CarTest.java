/** Promises 7 to 9: car, aim, remove. */
public final class CarTest {
    private static final Due due = new Due("CarTest");
    private static final int MIN = Integer.MIN_VALUE, MAX = Integer.MAX_VALUE;

    public static void main(String[] args) {
        carTakesTheLeastAndTheGreatest();
        carIsWaiting();
        carRefusesNumbers();
        carRefusesOnesThatAreThere();
        carBehindThoseThatAre();
        carHasItsNumberInZ();
        carMayBeAddedAnew();
        aimOfWaitingOnes();
        aimOfOnesOn();
        aimRefusesCars();
        aimRefusesEdges();
        aimRefusesGrantedOnes();
        aimNeedsRoomToStop();
        aimWithoutRoomToStop();
        removeOfEachState();
        removeRefuses();
        removeMakesRoom();
        removeSetsJunctionsFree();
        due.end();
    }

    private static void all(String when, RoadDesk x, int c, int... want) {
        for (int what = 0; what < 8; what++) {
            due.is(when + ": of(" + c + ", " + what + ")", x.of(c, what), want[what]);
        }
    }

    // ---- promise 7

    private static void carTakesTheLeastAndTheGreatest() {
        due.says("A car that is NONE is WAITING for an edge, .. with this type and GOAL");
        RoadDesk x = new RoadDesk();
        x.edge(0, 1, 50, Roads.shape(1, 12, 0));
        x.edge(15, 8, 50, Roads.shape(1, 12, 0));
        x.type(3, 6, 1, 8);
        due.yes("the least numbers", x.car(0, 0, 0, 0));
        due.yes("the greatest numbers", x.car(31, 3, 15, 15));
        due.yes("to the greatest", x.car(1, 0, 0, 15));
        due.yes("from the greatest", x.car(30, 3, 15, 0));
        x.run(1);
        due.at("type 0", x, 0, 0, 0, 4, 0);
        due.at("type 3", x, 31, 15, 0, 8, 0);
        RoadDesk all = Roads.line(1, 200, 50, 50);
        for (int c = 31; c >= 0; c--) {
            due.yes("car " + c, all.car(c, c % 4, c % 3, c % 3));
        }
        due.is("WAITING", all.road(0, 1), 11);
        due.is("WAITING", all.road(1, 1), 11);
        due.is("WAITING", all.road(2, 1), 10);
    }

    private static void carIsWaiting() {
        due.says("A car that is NONE is WAITING for an edge");
        RoadDesk x = Roads.line(1, 50, 50, 50);
        x.car(4, 1, 0, 2);
        all("another edge", x, 4, 1, 0, -2, -2, -2, -2, 2, 1);
        x.car(5, 1, 1, 1);
        all("its GOAL", x, 5, 1, 1, -2, -2, -2, -2, 1, -2);
        due.yes("with no way to its GOAL", x.car(6, 1, 2, 0));
        all("no way", x, 6, 1, 2, -2, -2, -2, -2, 0, -2);
        x.weight(0, -1);
        due.yes("for a CLOSED edge", x.car(7, 1, 0, 0));
        due.is("none came ON", x.road(0, 4), 0);
        due.is("none is ON", x.road(0, 0), 0);
        due.is("two are WAITING", x.road(0, 1), 2);
        due.is("none on its lane", x.lane(0, 0, 0), -2);
    }

    private static void carRefusesNumbers() {
        due.says("or there is no such number");
        int[][] bad = {{-1, 0, 0, 0}, {32, 0, 0, 0}, {MIN, 0, 0, 0}, {MAX, 0, 0, 0}, {6, -1, 0, 0}, {6, 4, 0, 0},
            {6, MIN, 0, 0}, {6, MAX, 0, 0}, {6, 0, -1, 0}, {6, 0, 4, 0}, {6, 0, 15, 0}, {6, 0, 16, 0}, {6, 0, MIN, 0},
            {6, 0, MAX, 0}, {6, 0, 0, -1}, {6, 0, 0, 4}, {6, 0, 0, 15}, {6, 0, 0, 16}, {6, 0, 0, MIN},
            {6, 0, 0, MAX}, {6, 0, 4, 4}, {-1, -1, -1, -1}, {32, 4, 16, 16}};
        for (int[] b : bad) {
            String call = "car(" + b[0] + ", " + b[1] + ", " + b[2] + ", " + b[3] + ")";
            Twins.check(due, call, Twins::quiet, x -> Twins.bit(x.car(b[0], b[1], b[2], b[3])), 0);
            Twins.check(due, call, Twins::busy, x -> Twins.bit(x.car(b[0], b[1], b[2], b[3])), 0);
        }
    }

    private static void carRefusesOnesThatAreThere() {
        due.says("False if it is another one");
        int[] cars = {0, 31};
        for (int c : cars) {
            RoadDesk x = Roads.line(1, 50, 50, 50);
            x.car(c, 0, 0, 1);
            due.no("WAITING", x.car(c, 1, 2, 2));
            due.no("WAITING, the same", x.car(c, 0, 0, 1));
            all("WAITING", x, c, 1, 0, -2, -2, -2, -2, 1, 1);
            x.run(1);
            due.no("ON", x.car(c, 1, 2, 2));
            all("ON", x, c, 2, 0, 0, 4, 0, -2, 1, 1);
            x.run(5);
            due.is("GRANTED", x.of(c, 5), 1);
            due.no("GRANTED", x.car(c, 1, 2, 2));
            due.is("WAITING for edge 2", x.road(2, 1), 0);
        }
        for (int c = 0; c < 6; c++) {
            int car = c;
            Twins.check(due, "car " + c, Twins::busy, x -> Twins.bit(x.car(car, 0, 0, 2)), 0);
        }
    }

    private static void carBehindThoseThatAre() {
        due.says("is WAITING for an edge, behind those that are");
        RoadDesk x = Roads.line(1, 100, 50, 50);
        x.type(1, 12, 3, 4);
        int[] first = {7, 3, 20};
        for (int c : first) {
            x.car(c, 1, 0, 0);
        }
        x.car(9, 1, 1, 1);
        x.remove(7);
        x.car(7, 1, 0, 0);
        due.no("refused, so it keeps its place", x.car(3, 1, 0, 0));
        x.run(1);
        due.is("3 is the first now", x.of(3, 0), 2);
        due.is("another edge", x.of(9, 0), 2);
        x.run(2);
        due.is("20 behind it", x.of(20, 0), 2);
        due.is("7 not yet", x.of(7, 0), 1);
        x.run(2);
        due.is("7 last", x.of(7, 0), 2);
        for (int k = 0; k < 3; k++) {
            due.is("in this order", x.lane(0, 0, k), k == 0 ? 3 : k == 1 ? 20 : 7);
        }
    }

    private static void carHasItsNumberInZ() {
        due.says("its z being 12345 and its number together");
        for (int c = 0; c < 32; c++) {
            RoadDesk x = Roads.line(1, 100, 50, 50);
            x.type(1, 1, 1, 54);
            x.run(c % 3);
            x.car(c, 1, 0, 0);
            x.run(1);
            Draws draws = new Draws(c);
            for (int step = 1; step <= 30; step++) {
                x.run(1);
                due.is("car " + c + " step " + step, x.of(c, 4), draws.next() < 5 ? 0 : 1);
            }
        }
    }

    private static void carMayBeAddedAnew() {
        due.says("A car that is NONE");
        RoadDesk x = Roads.line(1, 20, 50, 50);
        x.car(3, 0, 0, 0);
        x.run(10);
        due.is("ARRIVED", x.of(3, 0), 0);
        due.yes("after it ARRIVED", x.car(3, 1, 1, 2));
        all("after it ARRIVED", x, 3, 1, 1, -2, -2, -2, -2, 2, 2);
        x.run(8);
        x.remove(3);
        due.yes("after remove", x.car(3, 2, 0, 1));
        all("after remove", x, 3, 1, 0, -2, -2, -2, -2, 1, 1);
        x.run(1);
        all("ON", x, 3, 2, 0, 0, 4, 0, -2, 1, 1);
    }

    // ---- promise 8

    private static void aimOfWaitingOnes() {
        due.says("A car WAITING .. gets a GOAL");
        RoadDesk x = Roads.line(1, 50, 50, 50);
        x.car(0, 0, 0, 2);
        int[] goals = {1, 0, 2, 2};
        for (int goal : goals) {
            due.yes("to " + goal, x.aim(0, goal));
            due.is("GOAL", x.of(0, 6), goal);
            due.is("still WAITING", x.of(0, 0), 1);
        }
        x.car(1, 0, 1, 1);
        due.yes("to one that can't be reached", x.aim(1, 0));
        x.run(3);
        due.is("it waits on", x.of(1, 0), 1);
        // its FRONT and SPEED of before do not matter: 5 up to the END with SPEED 6, and then WAITING for its GOAL
        RoadDesk y = Roads.line(1, 30, 50, 50);
        y.car(0, 0, 0, 0);
        y.run(7);
        due.no("ON", y.aim(0, 1));
        y.remove(0);
        y.car(0, 0, 0, 0);
        due.yes("WAITING", y.aim(0, 1));
        due.is("GOAL", y.of(0, 6), 1);
    }

    private static void aimOfOnesOn() {
        due.says("or ON but not GRANTED, gets a GOAL");
        RoadDesk x = Roads.line(1, 60, 50, 50);
        x.car(0, 0, 0, 2);
        x.run(1);
        int[] goals = {1, 0, 2, 0, 0, 1};
        for (int goal : goals) {
            due.yes("to " + goal, x.aim(0, goal));
            due.is("GOAL", x.of(0, 6), goal);
            due.is("NEXT", x.of(0, 7), goal == 0 ? -2 : 1);
        }
        // at the END of its edge to that edge, and on: then it ARRIVES
        RoadDesk y = Roads.line(1, 30, 50, 50);
        Roads.red(y, 1);
        y.car(0, 0, 0, 1);
        Roads.run(y, 15);
        due.at("at the END", y, 0, 0, 0, 30, 0);
        due.yes("to where it is", y.aim(0, 0));
        due.yes("and back: 0 left is SAFE for SPEED 0", y.aim(0, 1));
        due.yes("to where it is", y.aim(0, 0));
        y.run(1);
        due.is("ARRIVED", y.total(2), 1);
    }

    private static void aimRefusesCars() {
        due.says("False if it is not so");
        int[][] bad = {{-1, 0}, {32, 0}, {MIN, 0}, {MAX, 0}, {6, 0}, {31, 0}, {-1, -1}, {32, 16}};
        for (int[] b : bad) {
            Twins.check(due, "aim(" + b[0] + ", " + b[1] + ")", Twins::busy, x -> Twins.bit(x.aim(b[0], b[1])), 0);
        }
        RoadDesk x = Roads.line(1, 20, 50, 50);
        x.car(0, 0, 0, 0);
        x.run(10);
        due.is("ARRIVED", x.total(2), 1);
        due.no("one that ARRIVED", x.aim(0, 0));
        x.car(0, 0, 0, 0);
        x.remove(0);
        due.no("one removed", x.aim(0, 0));
    }

    private static void aimRefusesEdges() {
        due.says("there is no such edge");
        int[] goals = {-1, 4, 15, 16, MIN, MAX};
        for (int goal : goals) {
            for (int c = 0; c < 6; c++) {
                int car = c;
                Twins.check(due, "aim(" + c + ", " + goal + ")", Twins::busy, x -> Twins.bit(x.aim(car, goal)), 0);
            }
        }
    }

    private static void aimRefusesGrantedOnes() {
        due.says("ON but not GRANTED");
        RoadDesk x = Roads.line(1, 30, 50, 50);
        x.car(0, 0, 0, 2);
        x.run(2);
        due.is("GRANTED", x.of(0, 5), 1);
        for (int goal = 0; goal < 3; goal++) {
            due.no("GRANTED, to " + goal, x.aim(0, goal));
            due.is("GOAL", x.of(0, 6), 2);
        }
        x.run(6);
        due.at("across", x, 0, 1, 0, 1, 6);
        due.yes("not GRANTED any more", x.aim(0, 1));
        due.is("GOAL", x.of(0, 6), 1);
    }

    /** Car 0 on its GOAL, edge 1, SPEED 6, with this much left up to the END; D(6) is 6. */
    private static RoadDesk near(int rest) {
        RoadDesk x = new RoadDesk();
        x.edge(1, 10, 25 + rest, Roads.shape(1, 12, 0));
        x.edge(2, 19, 50, Roads.shape(1, 12, 0));
        x.edge(0, 17, 50, Roads.shape(1, 12, 0));
        x.car(0, 0, 1, 1);
        x.run(7);
        due.at("near", x, 0, 1, 0, 25, 6);
        return x;
    }

    private static void aimNeedsRoomToStop() {
        due.says("or it is ON its GOAL up to now, the new one is another edge, and its END would not be SAFE");
        for (int rest = 0; rest <= 8; rest++) {
            for (int goal = 0; goal <= 2; goal++) {
                RoadDesk x = near(rest);
                boolean taken = goal == 1 || rest >= 6;
                due.same("to " + goal + ", " + rest + " left", x.aim(0, goal), taken);
                due.is("GOAL", x.of(0, 6), taken ? goal : 1);
            }
        }
        RoadDesk x = near(6);
        x.aim(0, 2);
        due.yes("back to where it is", x.aim(0, 1));
        due.yes("and on again", x.aim(0, 0));
        Roads.red(x, 2);
        x.run(5);
        due.at("it stops at the END", x, 0, 1, 0, 31, 0);
        due.is("no SPEED fell by more than 2", x.total(5), 0);
    }

    private static void aimWithoutRoomToStop() {
        due.says("it is ON its GOAL up to now, the new one is another edge");
        // refused: it ARRIVES; the GOAL can't be reached: the same
        RoadDesk x = near(5);
        due.no("another", x.aim(0, 2));
        x.run(1);
        due.is("ARRIVED", x.total(2), 1);
        RoadDesk y = near(5);
        y.weight(2, -1);
        due.no("another, CLOSED", y.aim(0, 2));
        // not on its GOAL up to now: there is always room
        RoadDesk z = Roads.line(1, 30, 50, 50);
        Roads.red(z, 1);
        z.car(0, 0, 0, 1);
        for (int step = 1; step <= 12; step++) {
            z.run(1);
            due.yes("to 2, step " + step, z.aim(0, 2));
            due.yes("to 1, step " + step, z.aim(0, 1));
        }
        Twins.check(due, "too near", () -> near(5), w -> Twins.bit(w.aim(0, 2)), 0);
    }

    // ---- promise 9

    private static void removeOfEachState() {
        due.says("A car is NONE: true");
        int[] cars = {0, 31};
        for (int c : cars) {
            RoadDesk x = Roads.line(1, 40, 50, 50);
            x.car(c, 0, 0, 2);
            due.yes("WAITING", x.remove(c));
            all("WAITING", x, c, 0, -2, -2, -2, -2, -2, -2, -2);
            due.is("none WAITING", x.road(0, 1), 0);
            x.car(c, 0, 0, 2);
            x.run(1);
            due.yes("ON", x.remove(c));
            all("ON", x, c, 0, -2, -2, -2, -2, -2, -2, -2);
            due.is("none ON", x.road(0, 0), 0);
            due.is("none on the lane", x.lane(0, 0, 0), -2);
            x.car(c, 0, 0, 2);
            x.run(3);
            due.is("GRANTED", x.of(c, 5), 1);
            due.yes("GRANTED", x.remove(c));
            all("GRANTED", x, c, 0, -2, -2, -2, -2, -2, -2, -2);
            x.run(10);
            all("and stays so", x, c, 0, -2, -2, -2, -2, -2, -2, -2);
            due.is("it did not ARRIVE", x.total(2), 0);
            due.is("it came ON twice", x.total(1), 2);
            due.is("it came ON twice", x.road(0, 4), 2);
        }
    }

    private static void removeRefuses() {
        due.says("false if it is already, or there is none");
        int[] bad = {-1, 32, 6, 31, 33, MIN, MAX};
        for (int c : bad) {
            Twins.check(due, "remove(" + c + ")", Twins::busy, x -> Twins.bit(x.remove(c)), 0);
            Twins.check(due, "remove(" + c + ")", Twins::quiet, x -> Twins.bit(x.remove(c)), 0);
        }
        RoadDesk x = Roads.line(1, 20, 50, 50);
        due.no("never added", x.remove(0));
        x.car(0, 0, 0, 0);
        due.yes("once", x.remove(0));
        due.no("twice", x.remove(0));
        x.car(0, 0, 0, 0);
        x.run(10);
        due.is("ARRIVED", x.total(2), 1);
        due.no("one that ARRIVED", x.remove(0));
    }

    private static void removeMakesRoom() {
        due.says("A car is NONE");
        RoadDesk x = Roads.line(1, 60, 50, 50);
        Roads.red(x, 1);
        x.car(0, 0, 0, 1);
        x.car(1, 0, 0, 1);
        Roads.run(x, 40);
        due.at("behind it", x, 1, 0, 0, 55, 0);
        x.remove(0);
        Roads.run(x, 10);
        due.at("up to the END", x, 1, 0, 0, 60, 0);
        due.is("the first on the lane", x.lane(0, 0, 0), 1);
        due.is("no second", x.lane(0, 0, 1), -2);
    }

    private static void removeSetsJunctionsFree() {
        due.says("A car is NONE");
        RoadDesk x = Roads.line(1, 22, 50, 50);
        x.car(0, 0, 0, 2);
        x.run(2);
        due.is("HELD", x.junction(1, 2), 1);
        x.remove(0);
        due.is("not HELD", x.junction(1, 2), 0);
        x.car(1, 0, 1, 2);
        x.run(1);
        due.is("none is GRANTED that lane", x.of(1, 0), 2);
    }
}
