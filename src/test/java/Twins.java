import java.util.function.Supplier;
import java.util.function.ToIntFunction;

/** Desks made alike, one of which is asked what it refuses: both must answer alike from then on. */
final class Twins {
    private static final int CARS = 7, EDGES = 5;

    private Twins() {
    }

    static int bit(boolean answer) {
        return answer ? 1 : 0;
    }

    /** Roads with all that a refused call could spoil, but no car. */
    static RoadDesk quiet() {
        RoadDesk x = new RoadDesk();
        x.edge(0, 1, 60, Roads.shape(2, 12, 0));
        x.edge(1, 10, 40, Roads.shape(1, 10, 1));
        x.edge(2, 11, 40, Roads.shape(2, 8, 2));
        x.edge(3, 17, 30, Roads.shape(1, 6, 3));
        x.connect(0, 0, 2);
        x.connect(0, 1, 6);
        x.weight(1, 3);
        x.weight(2, 5);
        x.type(1, 9, 2, 36);
        x.type(2, 3, 1, 3);
        x.phase(1, 0, 9, 302);
        x.phase(1, 1, 8, 301);
        x.phase(1, 2, 1, 403);
        x.run(4);
        return x;
    }

    /** The same with cars WAITING, ON, GRANTED, on their GOAL, and one that has changed lanes of late. */
    static RoadDesk busy() {
        RoadDesk x = quiet();
        x.car(0, 1, 0, 1);
        x.car(1, 2, 0, 2);
        x.car(2, 0, 3, 3);
        x.car(3, 0, 1, 2);
        x.run(5);
        x.aim(0, 2);
        x.run(1);
        x.car(4, 1, 0, 1);
        x.car(5, 0, 0, 2);
        x.run(1);
        return x;
    }

    static void check(Due due, String call, Supplier<RoadDesk> made, ToIntFunction<RoadDesk> asked, int answer) {
        RoadDesk one = made.get();
        RoadDesk other = made.get();
        due.is(call, asked.applyAsInt(one), answer);
        compare(due, call + ", at once", one, other);
        for (int c = 0; c < CARS; c++) {
            one.car(c, c % 4, c % 4, (c + 1) % 3);
            other.car(c, c % 4, c % 4, (c + 1) % 3);
        }
        for (int i = 1; i <= 2; i++) {
            one.run(7);
            other.run(7);
            compare(due, call + ", " + 7 * i + " steps later", one, other);
        }
    }

    static void compare(Due due, String when, RoadDesk one, RoadDesk other) {
        for (int c = 0; c < CARS; c++) {
            for (int what = 0; what < 8; what++) {
                due.is(when + ": of(" + c + ", " + what + ")", one.of(c, what), other.of(c, what));
            }
        }
        for (int e = 0; e < EDGES; e++) {
            for (int what = 0; what < 6; what++) {
                due.is(when + ": road(" + e + ", " + what + ")", one.road(e, what), other.road(e, what));
            }
            due.is(when + ": way(" + e + ", 2, 0)", one.way(e, 2, 0), other.way(e, 2, 0));
        }
        for (int j = 0; j < 3; j++) {
            for (int what = 0; what < 5; what++) {
                due.is(when + ": junction(" + j + ", " + what + ")", one.junction(j, what), other.junction(j, what));
            }
        }
        for (int what = 0; what < 7; what++) {
            due.is(when + ": total(" + what + ")", one.total(what), other.total(what));
        }
        for (int k = 0; k < 2; k++) {
            due.is(when + ": lane(0, 1, " + k + ")", one.lane(0, 1, k), other.lane(0, 1, k));
        }
    }
}
