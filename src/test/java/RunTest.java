/** Promise 10, run. */
public final class RunTest {
    private static final Due due = new Due("RunTest");

    public static void main(String[] args) {
        eachNumber();
        none();
        twenty();
        others();
        due.end();
    }

    private static void eachNumber() {
        due.says("n STEPS, 0..20: n");
        int steps = 0;
        RoadDesk x = new RoadDesk();
        for (int n = 0; n <= 20; n++) {
            due.is("run " + n, x.run(n), n);
            steps += n;
            due.is("STEPS after run " + n, x.total(0), steps);
        }
    }

    private static void none() {
        due.says("n STEPS, 0..20: n");
        due.is("run 0 of a new one", new RoadDesk().run(0), 0);
        Twins.check(due, "run(0)", Twins::busy, x -> x.run(0), 0);
        Twins.check(due, "run(0)", Twins::quiet, x -> x.run(0), 0);
    }

    private static void twenty() {
        due.says("n STEPS, 0..20: n");
        RoadDesk one = Twins.busy();
        RoadDesk other = Twins.busy();
        due.is("run 20", one.run(20), 20);
        for (int i = 0; i < 20; i++) {
            due.is("run 1", other.run(1), 1);
        }
        Twins.compare(due, "20 at once, and one by one", one, other);
        due.is("run 7", one.run(7), 7);
        due.is("run 3", other.run(3), 3);
        due.is("run 4", other.run(4), 4);
        Twins.compare(due, "7 at once, and 3 and 4", one, other);
    }

    private static void others() {
        due.says("BAD for another n");
        int[] bad = {-1, -2, -20, -21, 21, 22, 40, 100, 65536, Integer.MIN_VALUE, Integer.MIN_VALUE + 1,
            Integer.MAX_VALUE - 1, Integer.MAX_VALUE};
        for (int n : bad) {
            Twins.check(due, "run(" + n + ")", Twins::busy, x -> x.run(n), RoadDesk.BAD);
            Twins.check(due, "run(" + n + ")", Twins::quiet, x -> x.run(n), RoadDesk.BAD);
            RoadDesk x = new RoadDesk();
            due.is("run " + n, x.run(n), -1);
            due.is("no STEP", x.total(0), 0);
        }
    }
}
