/**
 * Long runs of drawn calls on RoadDesk and on Model, all of whose answers must be the same (promises 1 to 17);
 * and what the document's safe gaps are for: cars never overlap on a lane, and never brake by more than 2.
 */
public final class ModelTest {
    private static final int RUNS = 400, CALLS = 160;
    private static final Due due = new Due("ModelTest");
    private static final long[] seen = new long[7];
    private static long noise;

    private static int draw(int bound) {
        noise = noise * 6364136223846793005L + 1442695040888963407L;
        return (int) ((noise >>> 33) % bound);
    }

    private static int draw(int least, int most) {
        return least + draw(most - least + 1);
    }

    private static boolean chance(int percent) {
        return draw(100) < percent;
    }

    public static void main(String[] args) {
        for (int run = 0; run < RUNS && due.wrongSoFar() < 20; run++) {
            noise = run * 7919L + 1;
            oneRun(run);
        }
        String[] what = {"steps", "entries", "arrivals", "changes of lanes", "grants"};
        for (int i = 0; i < what.length; i++) {
            System.out.println("  " + seen[i] + " " + what[i]);
            due.is("enough " + what[i], seen[i] > 1000 ? 1 : 0, 1);
        }
        due.end();
    }

    private static void oneRun(int run) {
        RoadDesk x = new RoadDesk();
        Model m = new Model();
        int junctions = draw(2, 5);
        int edges = draw(3, 14);
        compare("run " + run + " at first", x, m);
        for (int e = 0; e < edges; e++) {
            makeEdge(run, x, m, e, junctions);
        }
        for (int t = 0; t < 4; t++) {
            if (chance(80)) {
                makeType(run, x, m, t);
            }
        }
        for (int i = 0; i < CALLS && due.wrongSoFar() < 20; i++) {
            String when = "run " + run + " call " + i;
            due.is(when, call(run, x, m, edges, junctions), 1);
            compare(when, x, m);
            checkLanes(when, x);
        }
        for (int i = 0; i < 7; i++) {
            seen[i] += x.total(i);
        }
        due.is("run " + run + " hard stops", x.total(5), 0);
    }

    private static void makeEdge(int run, RoadDesk x, Model m, int e, int junctions) {
        int from = draw(junctions);
        int to = chance(3) ? from : (from + draw(1, junctions - 1)) % junctions;
        int length = chance(70) ? draw(20, 50) : draw(15, 205);
        int shape = (chance(60) ? 2 : draw(4)) + 4 * (chance(80) ? draw(5, 12) : draw(16)) + 64 * draw(4);
        boolean made = x.edge(e, 8 * from + to, length, shape);
        due.is("run " + run + " edge " + e, made ? 1 : 0, m.edge(e, 8 * from + to, length, shape) ? 1 : 0);
    }

    private static void makeType(int run, RoadDesk x, Model m, int t) {
        int top = chance(80) ? draw(2, 12) : draw(0, 13);
        int accel = chance(90) ? draw(1, 3) : draw(0, 4);
        int shape = draw(3, 8) + 10 * (chance(60) ? 0 : draw(10)) + (chance(5) ? draw(-9, 40) : 0);
        boolean made = x.type(t, top, accel, shape);
        due.is("run " + run + " type " + t, made ? 1 : 0, m.type(t, top, accel, shape) ? 1 : 0);
    }

    /** 1 if both answered the same. */
    private static int call(int run, RoadDesk x, Model m, int edges, int junctions) {
        int kind = draw(100);
        int e = draw(edges);
        int c = draw(20);
        int goal = draw(edges);
        if (kind < 45) {
            int n = chance(96) ? draw(1, 4) : draw(-1, 21);
            return x.run(n) == m.run(n) ? 1 : 0;
        } else if (kind < 77) {
            int t = chance(98) ? draw(4) : draw(-1, 4);
            return x.car(c, t, e, goal) == m.car(c, t, e, goal) ? 1 : 0;
        } else if (kind < 83) {
            return x.aim(c, goal) == m.aim(c, goal) ? 1 : 0;
        } else if (kind < 86) {
            return x.remove(c) == m.remove(c) ? 1 : 0;
        } else if (kind < 90) {
            int w = chance(25) ? -1 : chance(90) ? draw(30) : draw(-3, 1003);
            return x.weight(e, w) == m.weight(e, w) ? 1 : 0;
        } else if (kind < 94) {
            int l = chance(90) ? draw(2) : draw(-1, 2);
            int mask = chance(50) ? 65535 : draw(65536) | draw(65536);
            return x.connect(e, l, mask) == m.connect(e, l, mask) ? 1 : 0;
        } else if (kind < 98) {
            int j = draw(junctions);
            int k = chance(90) ? draw(3) : draw(-1, 4);
            int least = draw(chance(90) ? 1 : 0, 6);
            int times = chance(20) ? 0 : least + 100 * (least + draw(chance(90) ? 0 : -1, 9));
            int set = draw(65536) | draw(65536);
            return x.phase(j, k, set, times) == m.phase(j, k, set, times) ? 1 : 0;
        }
        makeType(run, x, m, draw(4));
        return 1;
    }

    private static void compare(String when, RoadDesk x, Model m) {
        for (int c = -1; c <= 32; c++) {
            for (int what = -1; what <= 8; what++) {
                same(when, "of", c, what, x.of(c, what), m.of(c, what));
            }
        }
        for (int e = -1; e <= 16; e++) {
            for (int what = -1; what <= 6; what++) {
                same(when, "road", e, what, x.road(e, what), m.road(e, what));
            }
            for (int l = -1; l <= 2; l++) {
                for (int k = -1; k <= 12; k++) {
                    same(when, "lane " + e, l, k, x.lane(e, l, k), m.lane(e, l, k));
                }
            }
        }
        for (int j = -1; j <= 8; j++) {
            for (int what = -1; what <= 5; what++) {
                same(when, "junction", j, what, x.junction(j, what), m.junction(j, what));
            }
        }
        for (int what = -1; what <= 7; what++) {
            same(when, "total", what, 0, x.total(what), m.total(what));
        }
        int e = draw(-1, 16);
        for (int goal = -1; goal <= 16; goal++) {
            for (int what = -1; what <= 2; what++) {
                same(when, "way " + e, goal, what, x.way(e, goal, what), m.way(e, goal, what));
            }
        }
    }

    private static void same(String when, String call, int a, int b, int got, int want) {
        if (got != want) {
            due.is(when + ": " + call + " " + a + " " + b, got, want);
        }
    }

    /** A car's FRONT is at most that of the one before it, less the least SIZE 3 and 1. */
    private static void checkLanes(String when, RoadDesk x) {
        for (int e = 0; e < 16; e++) {
            for (int l = 0; l < 2; l++) {
                for (int k = 1; k < 32 && x.lane(e, l, k) >= 0; k++) {
                    int before = x.of(x.lane(e, l, k - 1), 3);
                    if (x.of(x.lane(e, l, k), 3) > before - 4) {
                        due.is(when + ": overlap on lane " + e + " " + l, 1, 0);
                    }
                }
            }
        }
    }
}
