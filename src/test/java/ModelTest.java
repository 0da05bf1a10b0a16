import java.util.ArrayList;
import java.util.List;

/**
 * Runs of drawn calls on RoadDesk and on Model, all of whose answers must be the same (promises 1 to 17); and what the
 * document's safe gaps are for: cars never overlap on a lane, and never brake by more than 2.
 *
 * An object is used for at most 512 calls: for each look at its answers the calls so far are made on a new one.
 */
public final class ModelTest {
    private static final int RUNS = 400, CALLS = 160, LOOK_EVERY = 10, LIMIT = 512;
    private static final Due due = new Due("ModelTest");
    private static final List<Call> LOOKS = looks();
    private static final long[] seen = new long[7];
    private static long noise;

    /** A call by the name's place in NAMES; numbers that it does not take are 0. */
    private record Call(int name, int a, int b, int c, int d) {
        @Override
        public String toString() {
            return NAMES[name] + "(" + a + ", " + b + ", " + c + ", " + d + ")";
        }
    }

    private static final String[] NAMES = {"edge", "connect", "weight", "phase", "type", "car", "aim", "remove", "run",
        "of", "lane", "road", "junction", "way", "total"};
    private static final int EDGE = 0, CONNECT = 1, WEIGHT = 2, PHASE = 3, TYPE = 4, CAR = 5, AIM = 6, REMOVE = 7,
        RUN = 8, OF = 9, LANE = 10, ROAD = 11, JUNCTION = 12, WAY = 13, TOTAL = 14;

    private static int bit(boolean answer) {
        return answer ? 1 : 0;
    }

    private static int ask(RoadDesk x, Call k) {
        switch (k.name) {
            case EDGE: return bit(x.edge(k.a, k.b, k.c, k.d));
            case CONNECT: return bit(x.connect(k.a, k.b, k.c));
            case WEIGHT: return bit(x.weight(k.a, k.b));
            case PHASE: return bit(x.phase(k.a, k.b, k.c, k.d));
            case TYPE: return bit(x.type(k.a, k.b, k.c, k.d));
            case CAR: return bit(x.car(k.a, k.b, k.c, k.d));
            case AIM: return bit(x.aim(k.a, k.b));
            case REMOVE: return bit(x.remove(k.a));
            case RUN: return x.run(k.a);
            case OF: return x.of(k.a, k.b);
            case LANE: return x.lane(k.a, k.b, k.c);
            case ROAD: return x.road(k.a, k.b);
            case JUNCTION: return x.junction(k.a, k.b);
            case WAY: return x.way(k.a, k.b, k.c);
            default: return x.total(k.a);
        }
    }

    private static int ask(Model m, Call k) {
        switch (k.name) {
            case EDGE: return bit(m.edge(k.a, k.b, k.c, k.d));
            case CONNECT: return bit(m.connect(k.a, k.b, k.c));
            case WEIGHT: return bit(m.weight(k.a, k.b));
            case PHASE: return bit(m.phase(k.a, k.b, k.c, k.d));
            case TYPE: return bit(m.type(k.a, k.b, k.c, k.d));
            case CAR: return bit(m.car(k.a, k.b, k.c, k.d));
            case AIM: return bit(m.aim(k.a, k.b));
            case REMOVE: return bit(m.remove(k.a));
            case RUN: return m.run(k.a);
            case OF: return m.of(k.a, k.b);
            case LANE: return m.lane(k.a, k.b, k.c);
            case ROAD: return m.road(k.a, k.b);
            case JUNCTION: return m.junction(k.a, k.b);
            case WAY: return m.way(k.a, k.b, k.c);
            default: return m.total(k.a);
        }
    }

    private static List<Call> looks() {
        List<Call> all = new ArrayList<>();
        for (int a = -1; a <= 32; a++) {
            for (int what = -1; what <= 8; what++) {
                all.add(new Call(OF, a, what, 0, 0));
            }
        }
        for (int e = -1; e <= 16; e++) {
            for (int what = -1; what <= 6; what++) {
                all.add(new Call(ROAD, e, what, 0, 0));
            }
            for (int l = -1; l <= 2; l++) {
                for (int k = -1; k <= 6; k++) {
                    all.add(new Call(LANE, e, l, k, 0));
                }
            }
            for (int goal = -1; goal <= 16; goal++) {
                for (int what = -1; what <= 2; what++) {
                    all.add(new Call(WAY, e, goal, what, 0));
                }
            }
        }
        for (int j = -1; j <= 8; j++) {
            for (int what = -1; what <= 5; what++) {
                all.add(new Call(JUNCTION, j, what, 0, 0));
            }
        }
        for (int what = -1; what <= 7; what++) {
            all.add(new Call(TOTAL, what, 0, 0, 0));
        }
        return all;
    }

    private static int draw(int bound) {
        noise = noise * 6364136223846793005L + 1442695040888963407L;
        return (int) ((noise >>> 33) % bound);
    }

    private static int draw(int least, int most) {
        return least + draw(most - least + 1);
    }

    private static boolean chance(int percent) {
        return draw(100) < percent;
    }

    public static void main(String[] args) {
        for (int run = 0; run < RUNS && due.wrongSoFar() < 20; run++) {
            noise = run * 7919L + 1;
            oneRun(run);
        }
        String[] what = {"steps", "entries", "arrivals", "changes of lanes", "grants"};
        for (int i = 0; i < what.length; i++) {
            System.out.println("  " + seen[i] + " " + what[i]);
            due.is("enough " + what[i], seen[i] > 1000 ? 1 : 0, 1);
        }
        due.end();
    }

    private static void oneRun(int run) {
        List<Call> calls = drawCalls();
        List<Integer> answers = new ArrayList<>();
        Model m = new Model();
        for (int n = 0; n <= calls.size() && due.wrongSoFar() < 20; n++) {
            if (n % LOOK_EVERY == 0 || n == calls.size()) {
                look("run " + run + " after " + n + " calls", calls.subList(0, n), answers, m);
            }
            if (n < calls.size()) {
                answers.add(ask(m, calls.get(n)));
            }
        }
        for (int i = 0; i < 7; i++) {
            seen[i] += m.total(i);
        }
        due.is("run " + run + " hard stops", m.total(5), 0);
    }

    private static void look(String when, List<Call> calls, List<Integer> answers, Model m) {
        RoadDesk x = new RoadDesk();
        for (int i = 0; i < calls.size(); i++) {
            same(when, calls.get(i), ask(x, calls.get(i)), answers.get(i));
        }
        for (int c = 0; c < 20; c++) {
            for (int what = 1; what <= 5; what++) {
                Call k = new Call(OF, c, what, 0, 0);
                same(when, k, ask(x, k), ask(m, k));
            }
        }
        for (int left = LIMIT - calls.size() - 100; left > 0; left--) {
            Call k = LOOKS.get(draw(LOOKS.size()));
            same(when, k, ask(x, k), ask(m, k));
        }
        checkLanes(when, m);
    }

    private static void same(String when, Call k, int got, int want) {
        due.is(when + ": " + k, got, want);
    }

    private static List<Call> drawCalls() {
        List<Call> calls = new ArrayList<>();
        int junctions = draw(2, 5);
        int edges = draw(3, 14);
        for (int e = 0; e < edges; e++) {
            calls.add(drawEdge(e, junctions));
        }
        for (int t = 0; t < 4; t++) {
            if (chance(80)) {
                calls.add(drawType(t));
            }
        }
        while (calls.size() < CALLS) {
            calls.add(drawCall(edges, junctions));
        }
        return calls;
    }

    private static Call drawEdge(int e, int junctions) {
        int from = draw(junctions);
        int to = chance(3) ? from : (from + draw(1, junctions - 1)) % junctions;
        int length = chance(70) ? draw(20, 50) : draw(15, 205);
        int shape = (chance(60) ? 2 : draw(4)) + 4 * (chance(80) ? draw(5, 12) : draw(16)) + 64 * draw(4);
        return new Call(EDGE, e, 8 * from + to, length, shape);
    }

    private static Call drawType(int t) {
        int top = chance(80) ? draw(2, 12) : draw(0, 13);
        int accel = chance(90) ? draw(1, 3) : draw(0, 4);
        int shape = draw(3, 8) + 10 * (chance(60) ? 0 : draw(10)) + (chance(5) ? draw(-9, 40) : 0);
        return new Call(TYPE, t, top, accel, shape);
    }

    private static Call drawCall(int edges, int junctions) {
        int kind = draw(100);
        int e = draw(edges);
        int c = draw(20);
        int goal = draw(edges);
        if (kind < 45) {
            return new Call(RUN, chance(96) ? draw(1, 4) : draw(-1, 21), 0, 0, 0);
        } else if (kind < 77) {
            return new Call(CAR, c, chance(98) ? draw(4) : draw(-1, 4), e, goal);
        } else if (kind < 83) {
            return new Call(AIM, c, goal, 0, 0);
        } else if (kind < 86) {
            return new Call(REMOVE, c, 0, 0, 0);
        } else if (kind < 90) {
            return new Call(WEIGHT, e, chance(25) ? -1 : chance(90) ? draw(30) : draw(-3, 1003), 0, 0);
        } else if (kind < 94) {
            int mask = chance(50) ? 65535 : draw(65536) | draw(65536);
            return new Call(CONNECT, e, chance(90) ? draw(2) : draw(-1, 2), mask, 0);
        } else if (kind < 98) {
            int k = chance(90) ? draw(3) : draw(-1, 4);
            int least = draw(chance(90) ? 1 : 0, 6);
            int times = chance(20) ? 0 : least + 100 * (least + draw(chance(90) ? 0 : -1, 9));
            return new Call(PHASE, draw(junctions), k, draw(65536) | draw(65536), times);
        }
        return drawType(draw(4));
    }

    /** A car's FRONT is at most that of the one before it, less the least SIZE 3 and 1. */
    private static void checkLanes(String when, Model m) {
        for (int e = 0; e < 16; e++) {
            for (int l = 0; l < 2; l++) {
                for (int k = 1; m.lane(e, l, k) >= 0; k++) {
                    int before = m.of(m.lane(e, l, k - 1), 3);
                    if (m.of(m.lane(e, l, k), 3) > before - 4) {
                        due.is(when + ": overlap on lane " + e + " " + l, 1, 0);
                    }
                }
            }
        }
    }
}
