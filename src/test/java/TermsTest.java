import java.util.HashSet;
import java.util.Set;
import java.util.function.IntPredicate;

/** 'Terms': the ranges of the numbers, all of them taken and none beyond, and what they are at first. */
public final class TermsTest {
    private static final Due due = new Due("TermsTest");
    private static final int SHAPE = Roads.shape(1, 5, 0);

    public static void main(String[] args) {
        edges();
        junctions();
        edgesLeadFromOneToAnother();
        length();
        lanesLimitAndRank();
        limitBindsCars();
        rankStandsBefore();
        edgeAtFirst();
        maskAtFirst();
        masks();
        leadsToThoseThatAreThere();
        cars();
        front();
        types();
        sizeAndDawdle();
        typesBindCars();
        typesAtFirst();
        due.end();
    }

    private static void range(String what, int least, int most, IntPredicate taken) {
        due.says(what + " " + least + ".." + most);
        for (int n = least - 3; n <= most + 3; n++) {
            due.same(what + " " + n, taken.test(n), n >= least && n <= most);
        }
        int[] far = {Integer.MIN_VALUE, Integer.MIN_VALUE + 1, Integer.MAX_VALUE - 1, Integer.MAX_VALUE};
        for (int n : far) {
            due.no(what + " " + n, taken.test(n));
        }
    }

    private static RoadDesk oneEdge() {
        RoadDesk x = new RoadDesk();
        x.edge(0, 1, 200, Roads.shape(1, 12, 0));
        return x;
    }

    private static void edges() {
        range("EDGES", 0, 15, e -> new RoadDesk().edge(e, 1, 50, SHAPE));
        range("EDGES", 0, 15, e -> {
            RoadDesk x = new RoadDesk();
            x.edge(e, 1, 50, SHAPE);
            return x.road(e, 0) == 0 && x.connect(e, 0, 1) && x.weight(e, 1) && x.car(0, 0, e, e) && x.aim(0, e)
                    && x.way(e, e, 0) == 0 && x.lane(e, 0, 0) == -2;
        });
        RoadDesk all = new RoadDesk();
        for (int e = 0; e < 16; e++) {
            due.yes("all at once " + e, all.edge(e, 1, 20 + e, Roads.shape(1, 1, 0)));
        }
        for (int e = 0; e < 16; e++) {
            due.is("its own COST " + e, all.road(e, 2), 20 + e);
        }
    }

    private static void junctions() {
        range("JUNCTION", 0, 7, j -> new RoadDesk().phase(j, 0, 0, 101));
        range("JUNCTION", 0, 7, j -> new RoadDesk().junction(j, 1) == 0);
        due.says("EDGES 0..15 lead from a JUNCTION 0..7 to another one");
        for (int ends = -80; ends <= 150; ends++) {
            boolean taken = ends >= 0 && ends <= 63 && ends / 8 != ends % 8;
            due.same("ends " + ends, new RoadDesk().edge(0, ends, 50, SHAPE), taken);
        }
        int[] far = {Integer.MIN_VALUE, Integer.MIN_VALUE + 1, Integer.MAX_VALUE - 1, Integer.MAX_VALUE};
        for (int ends : far) {
            due.no("ends " + ends, new RoadDesk().edge(0, ends, 50, SHAPE));
        }
    }

    /** Edges 1 .. 8 go round by junctions 0 .. 7: edge 0 leads to the one that begins where it ends. */
    private static void edgesLeadFromOneToAnother() {
        due.says("Edge e leads from junction ends / 8 to ends % 8");
        for (int ends = 0; ends < 64; ends++) {
            RoadDesk x = new RoadDesk();
            for (int j = 0; j < 8; j++) {
                x.edge(1 + j, 8 * j + (j + 1) % 8, 50, SHAPE);
            }
            if (x.edge(0, ends, 50, SHAPE)) {
                for (int j = 0; j < 8; j++) {
                    int goal = 1 + j;
                    due.is("ends " + ends + " to edge " + goal, x.way(0, goal, 1), 1 + ends % 8);
                }
                int before = 1 + (ends / 8 + 7) % 8;
                due.is("ends " + ends + " from edge " + before, x.way(before, 0, 1), 0);
            }
        }
    }

    private static void length() {
        range("LENGTH", 20, 200, n -> new RoadDesk().edge(0, 1, n, SHAPE));
        due.says("a LENGTH 20..200");
        // SIZE 4 and SPEED 1 from then on: FRONT n + 3 after n steps, beyond the LENGTH after LENGTH - 2
        int[] lengths = {20, 21, 199, 200};
        for (int length : lengths) {
            RoadDesk x = new RoadDesk();
            x.edge(0, 1, length, Roads.shape(1, 1, 0));
            x.car(0, 0, 0, 0);
            Roads.run(x, length - 3);
            due.at("LENGTH " + length, x, 0, 0, 0, length, 1);
            x.run(1);
            due.is("beyond LENGTH " + length, x.of(0, 0), 0);
        }
    }

    private static void lanesLimitAndRank() {
        range("LANES", 1, 2, n -> n >= 0 && n < 4 && new RoadDesk().edge(0, 1, 50, n + 20));
        range("LIMIT", 1, 12, n -> n >= 0 && n < 16 && new RoadDesk().edge(0, 1, 50, 1 + 4 * n));
        range("RANK", 0, 3, n -> Math.abs((long) n) < 1000 && new RoadDesk().edge(0, 1, 50, 21 + 64 * n));
        due.says("shape is LANES, 4 * LIMIT and 64 * RANK together");
        Set<Integer> shapes = new HashSet<>();
        for (int lanes = 1; lanes <= 2; lanes++) {
            for (int limit = 1; limit <= 12; limit++) {
                for (int rank = 0; rank <= 3; rank++) {
                    shapes.add(lanes + 4 * limit + 64 * rank);
                }
            }
        }
        for (int shape = -600; shape <= 900; shape++) {
            due.same("shape " + shape, new RoadDesk().edge(0, 1, 50, shape), shapes.contains(shape));
        }
        due.says("1 or 2 LANES");
        for (int rank = 0; rank <= 3; rank++) {
            RoadDesk x = new RoadDesk();
            x.edge(0, 1, 50, Roads.shape(1, 12, rank));
            x.edge(1, 1, 50, Roads.shape(2, 1, rank));
            due.yes("lane 0 of one", x.connect(0, 0, 0));
            due.no("lane 1 of one", x.connect(0, 1, 0));
            due.yes("lane 1 of two", x.connect(1, 1, 0));
            due.no("lane 2 of two", x.connect(1, 2, 0));
        }
    }

    private static void limitBindsCars() {
        due.says("a LIMIT 1..12");
        for (int limit = 1; limit <= 12; limit++) {
            RoadDesk x = new RoadDesk();
            x.edge(0, 1, 200, Roads.shape(1, limit, 0));
            x.type(0, 12, 3, 3);
            x.car(0, 0, 0, 0);
            x.run(8);
            due.is("SPEED with LIMIT " + limit, x.of(0, 4), limit);
        }
    }

    private static void rankStandsBefore() {
        due.says("a RANK 0..3");
        for (int rank = 0; rank < 3; rank++) {
            RoadDesk x = Roads.merge(30, rank, 40, rank + 1);
            x.car(0, 0, 0, 2);
            x.car(1, 0, 1, 2);
            x.run(2);
            due.is("RANK " + rank, x.of(0, 5), -2);
            due.is("RANK " + (rank + 1), x.of(1, 5), 2);
        }
    }

    private static void edgeAtFirst() {
        due.says("a WEIGHT, at first 0, and are OPEN or CLOSED (at first OPEN)");
        for (int e = 0; e < 16; e++) {
            RoadDesk x = new RoadDesk();
            x.edge(e, 8, 50, SHAPE);
            due.is("COST of " + e, x.road(e, 2), 10);
            due.is("OPEN " + e, x.road(e, 5), 1);
        }
    }

    private static void maskAtFirst() {
        due.says("A lane has a MASK, at first all");
        for (int lanes = 1; lanes <= 2; lanes++) {
            RoadDesk x = new RoadDesk();
            x.edge(7, 1, 50, Roads.shape(lanes, 5, 0));
            for (int e = 0; e < 16; e++) {
                if (e != 7) {
                    x.edge(e, 8 + (e == 1 ? 0 : 2), 50, SHAPE);
                }
            }
            for (int e = 0; e < 16; e++) {
                due.is("to edge " + e, x.way(7, e, 1), e == 7 ? -2 : e);
            }
            x.connect(7, 0, 0);
            for (int e = 0; e < 16; e++) {
                due.is("by lane 1 to edge " + e, x.way(7, e, 1), e == 7 || lanes == 1 ? -2 : e);
            }
        }
    }

    private static void masks() {
        range("MASK", 0, 65535, n -> oneEdge().connect(0, 0, n));
        due.says("the sum of 2^f of edges f that it may LEAD to");
        for (int f = 0; f < 16; f++) {
            RoadDesk x = new RoadDesk();
            int from = f == 0 ? 1 : 0;
            for (int e = 0; e < 16; e++) {
                x.edge(e, e == from ? 1 : 10, 50, SHAPE);
            }
            x.connect(from, 0, 1 << f);
            for (int e = 0; e < 16; e++) {
                if (e != from) {
                    due.is("2^" + f + " to edge " + e, x.way(from, e, 1), e == f ? e : -2);
                }
            }
            x.connect(from, 0, 65535 - (1 << f));
            for (int e = 0; e < 16; e++) {
                if (e != from) {
                    due.is("all but 2^" + f + " to edge " + e, x.way(from, e, 1), e == f ? -2 : e);
                }
            }
        }
    }

    private static void leadsToThoseThatAreThere() {
        due.says("it leads to those of them that are there and begin where its edge ends");
        RoadDesk x = oneEdge();
        x.connect(0, 0, 1 << 9 | 1 << 4);
        due.is("edge 9 is not there", x.way(0, 9, 0), -1);
        x.edge(9, 10, 50, SHAPE);
        due.is("it is there now", x.way(0, 9, 1), 9);
        x.edge(4, 19, 50, SHAPE);
        due.is("edge 4 begins elsewhere: by edge 9", x.way(0, 4, 1), 9);
        x.edge(9, 26, 50, SHAPE);
        due.is("edge 9 begins elsewhere, too", x.way(0, 9, 1), -2);
        due.is("no way to edge 4", x.way(0, 4, 1), -2);
        x.edge(4, 8, 50, SHAPE);
        due.is("edge 4 begins there", x.way(0, 4, 1), 4);
        x.edge(5, 8, 50, SHAPE);
        due.is("edge 5 does, but is not in the MASK", x.way(0, 5, 1), -2);
        x.car(0, 0, 0, 4);
        x.run(1);
        due.is("a car that is led on comes ON", x.of(0, 0), 2);
    }

    private static void cars() {
        range("CARS", 0, 31, c -> oneEdge().car(c, 0, 0, 0));
        range("CARS", 0, 31, c -> new RoadDesk().of(c, 0) == 0);
        due.says("CARS are NONE (0, at first), WAITING (1) for an edge, or ON (2) a lane");
        int[] ends = {0, 31};
        for (int c : ends) {
            RoadDesk x = oneEdge();
            due.is("NONE", x.of(c, 0), 0);
            x.car(c, 0, 0, 0);
            due.is("WAITING", x.of(c, 0), 1);
            x.run(1);
            due.is("ON", x.of(c, 0), 2);
        }
    }

    private static void front() {
        due.says("with a FRONT 1..LENGTH");
        // FRONT 4, 5, 7, 10, 14, 19, 25: of LENGTH 25 the last, one more than LENGTH 24
        RoadDesk last = Roads.line(1, 25, 50, 50);
        last.car(0, 0, 0, 1);
        last.run(7);
        due.at("the greatest", last, 0, 0, 0, 25, 6);
        RoadDesk first = Roads.line(1, 24, 50, 50);
        first.car(0, 0, 0, 1);
        first.run(7);
        due.at("the least", first, 0, 1, 0, 1, 6);
    }

    private static void types() {
        range("TYPE", 0, 3, t -> new RoadDesk().type(t, 6, 1, 4));
        range("TYPE", 0, 3, t -> oneEdge().car(0, t, 0, 0));
        range("TOP", 1, 12, n -> new RoadDesk().type(0, n, 1, 4));
        range("ACCEL", 1, 3, n -> new RoadDesk().type(0, 6, n, 4));
    }

    private static void sizeAndDawdle() {
        range("SIZE", 3, 8, n -> n >= 0 && n < 10 && new RoadDesk().type(0, 6, 1, n));
        range("DAWDLE", 0, 9, n -> Math.abs((long) n) < 1000 && new RoadDesk().type(0, 6, 1, 4 + 10 * n));
        due.says("shape being SIZE and 10 * DAWDLE together");
        for (int shape = -120; shape <= 220; shape++) {
            boolean taken = shape >= 0 && shape <= 99 && shape % 10 >= 3 && shape % 10 <= 8;
            due.same("shape " + shape, new RoadDesk().type(0, 6, 1, shape), taken);
        }
    }

    private static void typesBindCars() {
        due.says("a TYPE 0..3, with a TOP speed 1..12, an ACCEL 1..3, a SIZE 3..8, a DAWDLE 0..9");
        for (int top = 1; top <= 12; top++) {
            RoadDesk x = oneEdge();
            int t = top % 4;
            int accel = 1 + top % 3;
            int size = 3 + top % 6;
            x.type(t, top, accel, size);
            x.car(0, t, 0, 0);
            x.run(1);
            due.at("SIZE " + size, x, 0, 0, 0, size, 0);
            int front = size;
            for (int step = 1; step <= 13; step++) {
                int speed = Math.min(accel * step, top);
                front += speed;
                x.run(1);
                due.at("TOP " + top + " ACCEL " + accel + " step " + step, x, 0, 0, 0, front, speed);
            }
        }
        for (int dawdle = 0; dawdle <= 9; dawdle++) {
            RoadDesk x = oneEdge();
            x.type(1, 1, 1, 3 + 10 * dawdle);
            x.car(3, 1, 0, 0);
            x.run(1);
            Draws draws = new Draws(3);
            for (int step = 1; step <= 80; step++) {
                x.run(1);
                due.is("DAWDLE " + dawdle + " step " + step, x.of(3, 4), draws.next() < dawdle ? 0 : 1);
            }
        }
    }

    private static void typesAtFirst() {
        due.says("(at first 6, 1, 4, 0)");
        for (int t = 0; t < 4; t++) {
            RoadDesk x = oneEdge();
            x.car(0, t, 0, 0);
            x.run(1);
            int front = 4;
            int[] speed = {0, 1, 2, 3, 4, 5, 6, 6, 6, 6, 6, 6, 6, 6, 6, 6, 6, 6};
            for (int s : speed) {
                front += s;
                due.at("type " + t, x, 0, 0, 0, front, s);
                x.run(1);
            }
        }
    }
}
