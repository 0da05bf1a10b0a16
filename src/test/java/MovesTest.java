/** A STEP's MOVES. */
public final class MovesTest {
    private static final Due due = new Due("MovesTest");

    public static void main(String[] args) {
        allAtOnce();
        behindOneThatStops();
        greatestSpeed();
        greatestSpeedAcross();
        aheadAndEndTogether();
        wishByAccel();
        wishByTopAndLimit();
        wishFallsByTwo();
        drawsByNumber();
        drawsFromTheFirstStep();
        drawsWhileStanding();
        drawsNotWhileWaiting();
        drawsOfAllCars();
        dawdlesNotBelowZero();
        dawdlesNotByMoreThanTwo();
        frontGrowsBySpeed();
        upToTheLength();
        arrives();
        crosses();
        due.end();
    }

    private static void allAtOnce() {
        due.says("MOVES, all at once .. all being as it was before the MOVES");
        // the second comes ON behind FRONT 13, and never has to wait for what the first does in the same step
        for (int first = 0; first < 2; first++) {
            RoadDesk x = Roads.line(1, 200, 50, 50);
            x.type(0, 12, 3, 4);
            x.car(first, 0, 0, 0);
            x.car(1 - first, 0, 0, 0);
            int[] lead = {4, 7, 13, 22, 34, 46, 58, 70};
            int[] follow = {-2, -2, 4, 7, 13, 22, 34, 46};
            for (int i = 0; i < lead.length; i++) {
                x.run(1);
                due.is("lead, step " + (i + 1), x.of(first, 3), lead[i]);
                due.is("follow, step " + (i + 1), x.of(1 - first, 3), follow[i]);
            }
        }
        // three in a queue start one behind the other, a step apart, whatever their numbers
        int[][] orders = {{0, 1, 2}, {2, 1, 0}, {1, 0, 2}};
        for (int[] order : orders) {
            RoadDesk x = Roads.line(1, 30, 200, 50);
            Roads.red(x, 1);
            for (int c : order) {
                x.car(c, 0, 0, 1);
            }
            Roads.run(x, 40);
            Roads.green(x, 1);
            int[][] speeds = {{1, 0, 0}, {2, 1, 0}, {3, 2, 1}, {4, 3, 2}, {5, 4, 3}, {6, 5, 4}, {6, 6, 5}};
            for (int[] speed : speeds) {
                x.run(1);
                for (int i = 0; i < 3; i++) {
                    due.is("SPEED in the queue, " + i, x.of(order[i], 4), speed[i]);
                }
            }
        }
    }

    private static void behindOneThatStops() {
        due.says("u at most g and the greater of w - 2 and 0 together, and u + D(u) at most g + D(w)");
        for (int first = 0; first < 2; first++) {
            RoadDesk x = Roads.line(1, 60, 50, 50);
            x.type(0, 12, 3, 3);
            Roads.red(x, 1);
            x.car(first, 0, 0, 1);
            x.car(1 - first, 0, 0, 1);
            int[] lead = {3, 6, 12, 21, 32, 41, 48, 54, 58, 60, 60, 60};
            int[] follow = {-2, -2, 3, 6, 12, 21, 31, 39, 46, 51, 54, 56};
            for (int i = 0; i < lead.length; i++) {
                x.run(1);
                due.is("lead, step " + (i + 1), x.of(first, 3), lead[i]);
                due.is("follow, step " + (i + 1), x.of(1 - first, 3), follow[i]);
            }
            due.is("no SPEED fell by more than 2", x.total(5), 0);
        }
    }

    private static int greatest(int wish, int gap, int w) {
        int best = 0;
        for (int u = 1; u <= wish; u++) {
            if (u <= gap + Math.max(w - 2, 0) && u + Model.d(u) <= gap + Model.d(w)) {
                best = u;
            }
        }
        return best;
    }

    /** Car 1 follows car 0, which stops for a red light: each SPEED is the greatest by what was before the step. */
    private static void greatestSpeed() {
        due.says("each car gets the greatest speed u up to its WISH with ..");
        int[] seen = new int[4];
        for (int top = 1; top <= 12; top++) {
            for (int otherTop = 1; otherTop <= 12; otherTop++) {
                RoadDesk x = Roads.line(1, 120, 50, 50);
                Roads.red(x, 1);
                x.type(0, otherTop, 1 + top % 3, 3 + top % 6);
                x.type(1, top, 1 + otherTop % 3, 3 + otherTop % 6);
                x.car(0, 0, 0, 1);
                x.car(1, 1, 0, 1);
                for (int step = 0; step < 60; step++) {
                    int speed = x.of(1, 4);
                    int front = x.of(1, 3);
                    int otherSpeed = x.of(0, 4);
                    int otherFront = x.of(0, 3);
                    x.run(1);
                    if (front < 0 || otherFront < 0) {
                        continue;
                    }
                    int size = 3 + top % 6;
                    int gap = otherFront - size - 1 - front;
                    int wish = Math.min(speed + 1 + otherTop % 3, top);
                    int want = Math.min(greatest(wish, gap, otherSpeed), greatest(wish, 120 - front, 0));
                    due.is("GAP " + gap + " to " + otherSpeed + ", WISH " + wish, x.of(1, 4), want);
                    int spare = gap + Model.d(otherSpeed) - want - Model.d(want);
                    seen[0] += want < wish && spare == 0 ? 1 : 0;
                    seen[1] += want < wish && otherSpeed > 2 ? 1 : 0;
                    seen[2] += want == wish && spare == 0 ? 1 : 0;
                    seen[3] += want == 0 ? 1 : 0;
                }
                due.is("no SPEED fell by more than 2", x.total(5), 0);
            }
        }
        String[] cases = {"u + D(u) just at most", "one held back by a fast one", "the WISH just at most", "SPEED 0"};
        for (int i = 0; i < cases.length; i++) {
            due.yes("there is a case of " + cases[i], seen[i] > 0);
        }
    }

    private static void greatestSpeedAcross() {
        due.says("for the GAP g and speed w of what is AHEAD");
        // car 0, slow, on edge 1; car 1 is GRANTED that edge, and the GAP is LENGTH 60 more
        for (int top = 2; top <= 12; top++) {
            RoadDesk x = Roads.line(1, 60, 80, 50);
            x.type(0, 1, 1, 5);
            x.type(1, top, 2, 4);
            x.car(0, 0, 1, 2);
            x.car(1, 1, 0, 2);
            boolean across = false;
            for (int step = 0; step < 60 && !across; step++) {
                int speed = x.of(1, 4);
                int front = x.of(1, 3);
                int otherSpeed = x.of(0, 4);
                int otherFront = x.of(0, 3);
                x.run(1);
                across = x.of(1, 1) == 1;
                if (front > 0) {
                    int wish = Math.min(speed + 2, top);
                    boolean granted = front >= 20;
                    int gap = granted ? otherFront - 5 - 1 - front + 60 : 60 - front;
                    int want = greatest(wish, gap, granted ? otherSpeed : 0);
                    due.is("FRONT " + front + ", GAP " + gap, x.of(1, 4), want);
                }
            }
            due.yes("across", across);
        }
    }

    private static void aheadAndEndTogether() {
        due.says("of what is AHEAD, and of its END, if it has them");
        // car 0 on its GOAL goes on with SPEED 6, beyond the END; car 1 behind it must stop there
        RoadDesk x = Roads.line(1, 60, 50, 50);
        Roads.red(x, 1);
        x.car(0, 0, 0, 0);
        x.car(1, 0, 0, 1);
        Roads.run(x, 40);
        due.is("ARRIVED", x.of(0, 0), 0);
        due.at("at the END", x, 1, 0, 0, 60, 0);
        // and the other way round: the one AHEAD stands, though it is on its GOAL and has no END
        RoadDesk y = Roads.line(1, 60, 50, 50);
        Roads.red(y, 1);
        y.car(0, 0, 0, 1);
        y.car(1, 0, 0, 0);
        Roads.run(y, 40);
        due.at("at the END", y, 0, 0, 0, 60, 0);
        due.at("behind it on its GOAL", y, 1, 0, 0, 55, 0);
    }

    private static void wishByAccel() {
        due.says("The WISH is the lesser of SPEED + ACCEL and ..");
        for (int accel = 1; accel <= 3; accel++) {
            RoadDesk x = Roads.line(1, 200, 50, 50);
            x.type(2, 12, accel, 3);
            x.car(0, 2, 0, 0);
            x.run(1);
            for (int step = 1; step <= 13; step++) {
                x.run(1);
                due.is("ACCEL " + accel + " step " + step, x.of(0, 4), Math.min(accel * step, 12));
            }
        }
    }

    private static void wishByTopAndLimit() {
        due.says("the lesser of TOP and LIMIT");
        int[][] cases = {{6, 6, 6}, {5, 6, 5}, {6, 5, 5}, {1, 12, 1}, {12, 1, 1}, {12, 12, 12}, {11, 12, 11},
            {12, 11, 11}};
        for (int[] k : cases) {
            RoadDesk x = new RoadDesk();
            x.edge(0, 1, 200, Roads.shape(1, k[1], 0));
            x.type(0, k[0], 3, 3);
            x.car(0, 0, 0, 0);
            x.run(10);
            due.is("TOP " + k[0] + " LIMIT " + k[1], x.of(0, 4), k[2]);
        }
    }

    /** With SPEED 12 from edge 0 onto edge 1 with this LIMIT: FRONT 57 after step 7, 9 on edge 1 after step 8. */
    private static RoadDesk fallingTo(int limit, int dawdle) {
        RoadDesk x = new RoadDesk();
        x.edge(0, 1, 60, Roads.shape(1, 12, 0));
        x.edge(1, 10, 200, Roads.shape(1, limit, 0));
        x.type(2, 12, 3, 3 + 10 * dawdle);
        x.car(0, 2, 0, 1);
        return x;
    }

    private static void wishFallsByTwo() {
        due.says("the greater of SPEED - 2 and the lesser of TOP and LIMIT");
        int[][] speeds = {{12, 12}, {12, 11, 11}, {12, 10, 10}, {12, 10, 9, 9}, {12, 10, 8, 6, 4, 3, 3},
            {12, 10, 8, 6, 4, 2, 1, 1}};
        int[] limits = {12, 11, 10, 9, 3, 1};
        for (int k = 0; k < limits.length; k++) {
            RoadDesk x = fallingTo(limits[k], 0);
            x.run(7);
            due.at("before", x, 0, 0, 0, 57, 12);
            int front = -3;
            for (int speed : speeds[k]) {
                x.run(1);
                front += speed;
                due.at("LIMIT " + limits[k], x, 0, 1, 0, front, speed);
            }
        }
    }

    /** SPEEDs of a car with this DAWDLE, TOP 3 and ACCEL 1 on a free road, from the first step after it came ON. */
    private static void driven(String when, RoadDesk x, int c, int dawdle, Draws draws, int steps) {
        int speed = x.of(c, 4);
        for (int step = 1; step <= steps; step++) {
            int u = Math.min(speed + 1, 3);
            boolean dawdles = draws.next() < dawdle;
            speed = dawdles && u > 0 && u - 1 >= speed - 2 ? u - 1 : u;
            x.run(1);
            due.is(when + ", DAWDLE " + dawdle + ", step " + step, x.of(c, 4), speed);
        }
    }

    private static void drawsByNumber() {
        due.says("Then z becomes z * 1103515245 + 12345 (wrapping); .. (z >>> 16) % 10 less than its DAWDLE");
        boolean negative = false;
        int[] drawn = new int[10];
        for (int c = 0; c < 32; c++) {
            int dawdle = c % 10;
            RoadDesk x = Roads.line(1, 200, 50, 50);
            x.type(1, 3, 1, 4 + 10 * dawdle);
            x.car(c, 1, 0, 0);
            x.run(1);
            driven("car " + c, x, c, dawdle, new Draws(c), 60);
            Draws again = new Draws(c);
            for (int step = 1; step <= 60; step++) {
                drawn[again.next()]++;
                negative |= again.isNegative();
            }
        }
        due.yes("there are z below 0", negative);
        for (int n = 0; n < 10; n++) {
            due.yes("there are draws of " + n, drawn[n] > 0);
        }
    }

    private static void drawsFromTheFirstStep() {
        due.says("its z being 12345 and its number together");
        for (int c = 0; c < 32; c += 31) {
            RoadDesk x = Roads.line(1, 200, 50, 50);
            x.type(1, 3, 1, 54);
            x.run(7);
            x.car(c, 1, 0, 0);
            x.run(5);
            x.remove(c);
            x.car(c, 1, 0, 0);
            x.run(1);
            driven("added anew, car " + c, x, c, 5, new Draws(c), 40);
        }
    }

    private static void drawsWhileStanding() {
        due.says("Then z becomes ..: in each step, of each car that is ON");
        RoadDesk x = Roads.line(1, 30, 200, 50);
        Roads.red(x, 1);
        x.type(1, 3, 1, 54);
        x.car(3, 1, 0, 1);
        x.run(1);
        Draws draws = new Draws(3);
        Roads.run(x, 60);
        for (int step = 1; step <= 60; step++) {
            draws.next();
        }
        due.at("at the END", x, 3, 0, 0, 30, 0);
        Roads.green(x, 1);
        driven("after the red light", x, 3, 5, draws, 40);
    }

    private static void drawsNotWhileWaiting() {
        due.says("Then z becomes ..: not of one that is WAITING");
        RoadDesk x = Roads.line(1, 200, 50, 50);
        x.type(1, 3, 1, 54);
        x.weight(0, -1);
        x.car(3, 1, 0, 0);
        x.run(13);
        x.weight(0, 0);
        x.run(1);
        driven("after it was WAITING", x, 3, 5, new Draws(3), 40);
    }

    private static void drawsOfAllCars() {
        due.says("each car .. its DAWDLE");
        // on three edges, each car with its own z
        RoadDesk x = Roads.line(1, 200, 200, 200);
        x.type(1, 1, 1, 54);
        Draws[] draws = new Draws[3];
        for (int c = 0; c < 3; c++) {
            x.car(c, 1, c, c);
            draws[c] = new Draws(c);
        }
        x.run(1);
        for (int step = 1; step <= 60; step++) {
            x.run(1);
            for (int c = 0; c < 3; c++) {
                due.is("car " + c + " step " + step, x.of(c, 4), draws[c].next() < 5 ? 0 : 1);
            }
        }
    }

    private static void dawdlesNotBelowZero() {
        due.says("u is 1 less if u is above 0");
        RoadDesk x = Roads.line(1, 30, 50, 50);
        Roads.red(x, 1);
        x.type(1, 3, 1, 94);
        x.car(0, 1, 0, 1);
        int front = 0;
        for (int step = 1; step <= 200; step++) {
            x.run(1);
            int now = x.of(0, 3);
            due.yes("FRONT " + front + ", then " + now, now >= front);
            front = now;
        }
        due.at("at the END", x, 0, 0, 0, 30, 0);
    }

    private static void dawdlesNotByMoreThanTwo() {
        due.says("u - 1 not below SPEED - 2");
        // DAWDLE 9: whatever it draws, its SPEED falls by 2, as the WISH does, and not by 3
        RoadDesk x = fallingTo(1, 9);
        int speed = 0;
        boolean fell = false;
        for (int step = 0; step < 100; step++) {
            x.run(1);
            int now = x.of(0, 4);
            due.yes("SPEED " + speed + ", then " + now, now >= speed - 2);
            fell |= speed > 3 && now == speed - 2;
            speed = now < 0 ? 0 : now;
        }
        due.yes("it fell by 2", fell);
        due.is("none by more", x.total(5), 0);
        // each number: up to SPEED 8 or more on edge 0, then 2 a step less on edge 1 with LIMIT 1
        for (int c = 0; c < 32; c++) {
            RoadDesk y = new RoadDesk();
            y.edge(0, 1, 200, Roads.shape(1, 12, 0));
            y.edge(1, 10, 200, Roads.shape(1, 1, 0));
            y.type(2, 12, 3, 53);
            y.car(c, 2, 0, 1);
            while (y.of(c, 1) == 0 && y.total(0) < 100) {
                y.run(1);
            }
            int v = y.of(c, 4);
            due.yes("SPEED onto edge 1", v >= 8);
            while (v > 4) {
                y.run(1);
                due.is("car " + c + " from " + v, y.of(c, 4), v - 2);
                v -= 2;
            }
        }
        // by 1, it may dawdle down to SPEED - 2: from SPEED 12 on LIMIT 11
        int twice = 0;
        for (int c = 0; c < 32; c++) {
            RoadDesk y = new RoadDesk();
            y.edge(0, 1, 200, Roads.shape(1, 12, 0));
            y.edge(1, 10, 200, Roads.shape(1, 11, 0));
            y.type(2, 12, 3, 23);
            y.car(c, 2, 0, 1);
            y.run(1);
            Draws draws = new Draws(c);
            int v = 0;
            while (y.of(c, 1) == 0 && y.total(0) < 100) {
                draws.next();
                y.run(1);
                v = y.of(c, 4);
            }
            y.run(1);
            if (v == 12) {
                boolean dawdles = draws.next() < 2;
                due.is("car " + c + " from 12 on LIMIT 11", y.of(c, 4), dawdles ? 10 : 11);
                twice += dawdles ? 1 : 0;
            }
        }
        due.yes("one dawdled", twice > 0);
    }

    private static void frontGrowsBySpeed() {
        due.says("Its FRONT grows by u, its SPEED is u");
        RoadDesk x = Roads.line(1, 200, 50, 50);
        x.type(1, 7, 2, 46);
        x.car(0, 1, 0, 0);
        x.run(1);
        int front = 6;
        for (int step = 1; step <= 25; step++) {
            x.run(1);
            front += x.of(0, 4);
            due.is("FRONT after step " + step, x.of(0, 3), front);
        }
        due.yes("it moved", front > 60);
    }

    private static void upToTheLength() {
        due.says("Beyond the LENGTH");
        // FRONT 25 after step 7
        RoadDesk goal = Roads.line(1, 25, 50, 50);
        goal.car(0, 0, 0, 0);
        goal.run(7);
        due.at("on its GOAL, FRONT of LENGTH", goal, 0, 0, 0, 25, 6);
        due.is("not ARRIVED", goal.total(2), 0);
        RoadDesk on = Roads.line(1, 25, 50, 50);
        on.car(0, 0, 0, 1);
        on.run(7);
        due.at("GRANTED, FRONT of LENGTH", on, 0, 0, 0, 25, 6);
        due.is("still GRANTED", on.of(0, 5), 1);
        on.run(1);
        due.at("then", on, 0, 1, 0, 6, 6);
    }

    private static void arrives() {
        due.says("it ARRIVES if it is on its GOAL, and is NONE");
        RoadDesk x = Roads.line(1, 24, 50, 50);
        x.car(9, 0, 0, 0);
        x.run(6);
        due.is("ON", x.of(9, 0), 2);
        x.run(1);
        for (int what = 0; what < 8; what++) {
            due.is("of(9, " + what + ")", x.of(9, what), what == 0 ? 0 : -2);
        }
        due.is("ARRIVED", x.total(2), 1);
        due.is("left", x.road(0, 0), 0);
        due.is("none there", x.lane(0, 0, 0), -2);
        due.is("edge 1", x.road(1, 0), 0);
        due.yes("it can be added anew", x.car(9, 0, 0, 0));
    }

    private static void crosses() {
        due.says("else it is ON the lane that it was granted, with a FRONT less by the LENGTH, and not GRANTED any more");
        int[] lengths = {20, 21, 22, 23, 24};
        for (int length : lengths) {
            RoadDesk x = Roads.line(2, length, 50, 50);
            x.connect(0, 0, 0);
            x.car(0, 0, 0, 2);
            x.run(7);
            due.at("LENGTH " + length, x, 0, 1, 1, 25 - length, 6);
            due.is("not GRANTED any more", x.of(0, 5), -2);
            due.is("left", x.road(0, 0), 0);
            due.is("came ON", x.road(1, 4), 1);
            due.is("on its lane", x.lane(1, 1, 0), 0);
            due.is("not on the other", x.lane(1, 0, 0), -2);
        }
    }
}
