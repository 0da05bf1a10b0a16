/** Roads that the tests drive on; all with LIMIT 12 but where a LIMIT is given. */
final class Roads {
    /** Times of a phase that outlasts every test. */
    static final int LONG = 9999;

    private Roads() {
    }

    static int shape(int lanes, int limit, int rank) {
        return lanes + 4 * limit + 64 * rank;
    }

    /** Edges 0, 1, 2 behind one another, from junction 0 to 3. */
    static RoadDesk line(int lanes, int first, int second, int third) {
        RoadDesk x = new RoadDesk();
        x.edge(0, 1, first, shape(lanes, 12, 0));
        x.edge(1, 10, second, shape(lanes, 12, 0));
        x.edge(2, 19, third, shape(lanes, 12, 0));
        return x;
    }

    /** Edges 0 and 1 of these lengths and ranks to junction 2, edge 2 on from there; one lane each. */
    static RoadDesk merge(int first, int rank, int second, int otherRank) {
        RoadDesk x = new RoadDesk();
        x.edge(0, 2, first, shape(1, 12, rank));
        x.edge(1, 10, second, shape(1, 12, otherRank));
        x.edge(2, 19, 50, shape(1, 12, 0));
        return x;
    }

    /** Edge 0 with two lanes, 0 to edge 1 and 1 to edge 2; nothing is GREEN where it ends. */
    static RoadDesk fork(int length) {
        RoadDesk x = new RoadDesk();
        x.edge(0, 1, length, shape(2, 12, 0));
        x.edge(1, 10, 50, shape(1, 12, 0));
        x.edge(2, 11, 50, shape(1, 12, 0));
        x.connect(0, 0, 2);
        x.connect(0, 1, 4);
        red(x, 1);
        return x;
    }

    /** No edge that ends there is GREEN from now on. */
    static void red(RoadDesk x, int j) {
        x.phase(j, 0, 0, LONG);
    }

    /** Every edge that ends there is GREEN from now on. */
    static void green(RoadDesk x, int j) {
        x.phase(j, 0, 0, 0);
    }

    /** More steps than one run does. */
    static void run(RoadDesk x, int steps) {
        int left = steps;
        while (left > 20) {
            x.run(20);
            left -= 20;
        }
        x.run(left);
    }

    /**
     * Edge 0 with two lanes; car 0 slow (TOP 1, SIZE 3) on lane 0 of its GOAL, FRONT 8 and SPEED 1 after 6 steps, and
     * car 1, with this TOP, behind it, FRONT 4.
     */
    static RoadDesk slowOne(int top) {
        RoadDesk x = new RoadDesk();
        x.edge(0, 1, 200, shape(2, 12, 0));
        x.type(1, 1, 1, 3);
        x.type(2, top, 1, 4);
        x.car(0, 1, 0, 0);
        x.car(1, 2, 0, 0);
        x.run(6);
        return x;
    }
}
