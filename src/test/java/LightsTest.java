/** A STEP's LIGHTS. */
public final class LightsTest {
    private static final Due due = new Due("LightsTest");

    public static void main(String[] args) {
        aStepOlder();
        mostStepsOld();
        leastStepsOld();
        carsFromThirtyOn();
        grantedOnesDoNotCount();
        onesOnTheirGoalDo();
        waitingOnesDoNot();
        onlyItsEdgesThatEndHere();
        eitherLane();
        anyOfItsEdges();
        behindTheLastTheFirst();
        oneAlone();
        eachWithItsTimes();
        greenByThePhaseAtHand();
        greenWithoutPhases();
        greenWhereItEnds();
        lightsComeFirst();
        due.end();
    }

    private static void phases(String when, RoadDesk x, int j, int... atHand) {
        for (int i = 0; i < atHand.length; i++) {
            x.run(1);
            due.is(when + ": phase after step " + (i + 1), x.junction(j, 0), atHand[i]);
        }
    }

    /** A car that stands at the END of edge 0, LENGTH 30, without a NEXT edge, so that it never ASKS. */
    private static RoadDesk stuck() {
        RoadDesk x = Roads.line(1, 30, 50, 50);
        x.car(0, 0, 0, 1);
        x.run(1);
        x.weight(1, -1);
        x.run(15);
        due.at("stuck", x, 0, 0, 0, 30, 0);
        return x;
    }

    private static void aStepOlder() {
        due.says("The one at hand becomes a step older");
        RoadDesk x = new RoadDesk();
        x.phase(0, 0, 0, Roads.LONG);
        x.phase(7, 0, 0, Roads.LONG);
        for (int age = 1; age <= 40; age++) {
            x.run(1);
            due.is("of junction 0", x.junction(0, 1), age);
            due.is("of junction 7", x.junction(7, 1), age);
            due.is("without any", x.junction(3, 1), 0);
        }
    }

    private static void mostStepsOld() {
        due.says("if it is MOST steps old then");
        RoadDesk x = stuck();
        x.phase(1, 0, 1, 502);
        x.phase(1, 1, 0, 101);
        phases("MOST 5", x, 1, 0, 0, 0, 0, 1, 0, 0, 0, 0, 0, 1);
        RoadDesk one = stuck();
        one.phase(1, 0, 1, 101);
        one.phase(1, 1, 1, 101);
        phases("MOST 1", one, 1, 1, 0, 1, 0);
        RoadDesk all = stuck();
        all.phase(1, 0, 1, 9901);
        all.phase(1, 1, 0, Roads.LONG);
        Roads.run(all, 98);
        due.is("98 steps old", all.junction(1, 1), 98);
        due.is("MOST 99", all.junction(1, 0), 0);
        all.run(1);
        due.is("MOST 99", all.junction(1, 0), 1);
        due.is("0 steps old", all.junction(1, 1), 0);
    }

    private static void leastStepsOld() {
        due.says("or LEAST or more and on none of its edges that end here a car");
        RoadDesk x = Roads.line(1, 30, 50, 50);
        x.phase(1, 0, 1, 903);
        x.phase(1, 1, 1, 501);
        phases("LEAST 3 and 1", x, 1, 0, 0, 1, 0, 0, 0, 1);
        // more than LEAST: as soon as the car is gone
        RoadDesk y = stuck();
        y.phase(1, 0, 1, 902);
        y.phase(1, 1, 0, Roads.LONG);
        phases("with a car", y, 1, 0, 0, 0, 0);
        y.remove(0);
        phases("without", y, 1, 1);
        RoadDesk z = new RoadDesk();
        z.phase(2, 0, 65535, Roads.LONG);
        z.phase(2, 1, 65535, 9998);
        Roads.run(z, 98);
        due.is("LEAST 99", z.junction(2, 0), 0);
        z.run(1);
        due.is("LEAST 99", z.junction(2, 0), 1);
        Roads.run(z, 97);
        due.is("LEAST 98", z.junction(2, 0), 1);
        z.run(1);
        due.is("LEAST 98", z.junction(2, 0), 0);
    }

    private static void carsFromThirtyOn() {
        due.says("has a FRONT of LENGTH - 30 or more");
        // it comes ON with FRONT 4 in step 1
        int[] lengths = {20, 29, 30, 31, 33, 34, 35, 36, 200};
        for (int length : lengths) {
            RoadDesk x = Roads.line(1, length, 50, 50);
            x.phase(1, 0, 1, 9902);
            x.phase(1, 1, 0, Roads.LONG);
            x.car(0, 0, 0, 0);
            phases("LENGTH " + length, x, 1, 0, length <= 34 ? 0 : 1);
        }
        // far off first, then near: FRONT 4, 5, 7, 10, 14; of LENGTH 40 the 10 and of 41 the 14 keep the phase
        int[][] later = {{40, 5, 0}, {41, 5, 1}, {41, 6, 0}, {44, 6, 0}, {45, 6, 1}};
        for (int[] k : later) {
            RoadDesk x = Roads.line(1, k[0], 50, 50);
            x.phase(1, 0, 1, 9900 + k[1]);
            x.phase(1, 1, 0, Roads.LONG);
            x.car(0, 0, 0, 0);
            x.run(k[1]);
            due.is("LENGTH " + k[0] + " LEAST " + k[1], x.junction(1, 0), k[2]);
        }
    }

    private static void grantedOnesDoNotCount() {
        due.says("a car that is not GRANTED");
        RoadDesk x = Roads.line(1, 30, 50, 50);
        x.phase(1, 0, 1, 9902);
        x.phase(1, 1, 0, Roads.LONG);
        x.car(0, 0, 0, 1);
        phases("not yet GRANTED", x, 1, 0, 0);
        due.is("GRANTED in step 2", x.of(0, 5), 1);
        phases("GRANTED", x, 1, 1);
    }

    private static void onesOnTheirGoalDo() {
        due.says("(one on its GOAL, too)");
        // FRONT 4, 5, 7, 10, 14, 19, 25, and beyond 30 in step 8
        RoadDesk x = Roads.line(1, 30, 50, 50);
        x.phase(1, 0, 1, 9902);
        x.phase(1, 1, 0, Roads.LONG);
        x.car(0, 0, 0, 0);
        phases("on its GOAL", x, 1, 0, 0, 0, 0, 0, 0, 0, 0, 1);
        due.is("ARRIVED", x.total(2), 1);
    }

    private static void waitingOnesDoNot() {
        due.says("on none of its edges that end here a car");
        RoadDesk x = Roads.line(1, 30, 50, 50);
        x.weight(0, -1);
        x.car(0, 0, 0, 0);
        x.phase(1, 0, 1, 9902);
        x.phase(1, 1, 0, Roads.LONG);
        phases("WAITING", x, 1, 0, 1);
        // nor does one whose number was ON there before
        RoadDesk y = stuck();
        y.remove(0);
        y.phase(1, 0, 1, 9902);
        y.phase(1, 1, 0, Roads.LONG);
        phases("NONE", y, 1, 0, 1);
        RoadDesk z = stuck();
        z.remove(0);
        z.weight(0, -1);
        z.car(0, 0, 0, 0);
        z.phase(1, 0, 1, 9902);
        z.phase(1, 1, 0, Roads.LONG);
        phases("WAITING again", z, 1, 0, 1);
    }

    private static void onlyItsEdgesThatEndHere() {
        due.says("its edges that end here");
        // edge 1 is in the phase, but begins at junction 1; edge 2 ends there, but is not in it
        RoadDesk x = Roads.line(1, 30, 30, 30);
        x.edge(2, 25, 30, Roads.shape(1, 12, 0));
        x.edge(3, 32, 30, Roads.shape(1, 12, 0));
        x.phase(1, 0, 2 + 8, 9902);
        x.phase(1, 1, 0, Roads.LONG);
        x.car(0, 0, 1, 1);
        x.car(1, 0, 2, 2);
        x.car(2, 0, 3, 3);
        phases("others", x, 1, 0, 1);
    }

    private static void eitherLane() {
        due.says("on none of its edges");
        for (int lane = 0; lane < 2; lane++) {
            RoadDesk x = Roads.fork(30);
            x.car(0, 0, 0, 1 + lane);
            x.run(1);
            x.aim(0, 0);
            x.phase(1, 0, 1, 9902);
            x.phase(1, 1, 0, Roads.LONG);
            phases("lane " + lane, x, 1, 0, 0, 0);
            due.is("lane", x.of(0, 2), lane);
        }
    }

    private static void anyOfItsEdges() {
        due.says("on none of its edges that end here");
        for (int e = 0; e < 16; e++) {
            for (int phase = 0; phase < 2; phase++) {
                RoadDesk x = new RoadDesk();
                x.edge(e, 8 * 3 + 5, 30, Roads.shape(1, 12, 0));
                x.car(0, 0, e, e);
                x.run(1);
                x.phase(5, 0, phase == 0 ? 1 << e : 65535 - (1 << e), 9902);
                x.phase(5, 1, phase == 0 ? 65535 - (1 << e) : 1 << e, 9902);
                phases("edge " + e + " in phase " + phase, x, 5, 0, phase, phase, phase);
            }
        }
    }

    private static void behindTheLastTheFirst() {
        due.says("the next one is at hand (behind the last the first), 0 steps old");
        for (int count = 2; count <= 4; count++) {
            RoadDesk x = new RoadDesk();
            for (int k = 0; k < count; k++) {
                x.phase(6, k, 0, 202);
            }
            for (int step = 1; step <= 4 * count + 3; step++) {
                x.run(1);
                due.is(count + " phases, step " + step, x.junction(6, 0), step / 2 % count);
                due.is(count + " phases, age after step " + step, x.junction(6, 1), step % 2);
            }
        }
    }

    private static void oneAlone() {
        due.says("the next one is at hand (behind the last the first), 0 steps old");
        RoadDesk x = Roads.line(1, 30, 50, 50);
        x.phase(1, 0, 1, 303);
        for (int step = 1; step <= 7; step++) {
            x.run(1);
            due.is("phase", x.junction(1, 0), 0);
            due.is("age after step " + step, x.junction(1, 1), step % 3);
            due.is("GREEN", x.road(0, 3), 1);
        }
    }

    private static void eachWithItsTimes() {
        due.says("a junction may have up to four PHASES: edges, a LEAST and a MOST number");
        // on the edge of phases 1 and 3 a car stands, so that they last for MOST, the others for LEAST
        RoadDesk x = stuck();
        x.phase(1, 0, 0, 501);
        x.phase(1, 1, 1, 301);
        x.phase(1, 2, 65534, 402);
        x.phase(1, 3, 65535, 201);
        phases("four", x, 1, 1, 1, 1, 2, 2, 3, 3, 0, 1, 1, 1, 2);
        // each junction has its own
        RoadDesk y = new RoadDesk();
        for (int j = 0; j < 8; j++) {
            y.phase(j, 0, 0, 101 * (1 + j));
            y.phase(j, 1, 0, Roads.LONG);
        }
        for (int step = 1; step <= 9; step++) {
            y.run(1);
            for (int j = 0; j < 8; j++) {
                due.is("junction " + j + " step " + step, y.junction(j, 0), step > j ? 1 : 0);
            }
        }
    }

    private static void greenByThePhaseAtHand() {
        due.says("An edge is GREEN if the phase at hand where it ends has it");
        RoadDesk x = new RoadDesk();
        for (int e = 0; e < 16; e++) {
            x.edge(e, 8 * (1 + e % 7), 30, Roads.shape(1, 12, 0));
        }
        int[] sets = {1 << 15 | 1, 2, 0, 65535};
        for (int k = 0; k < 4; k++) {
            x.phase(0, k, sets[k], 101);
        }
        for (int step = 0; step < 6; step++) {
            for (int e = 0; e < 16; e++) {
                due.is("edge " + e + " step " + step, x.road(e, 3), sets[step % 4] >> e & 1);
            }
            x.run(1);
        }
    }

    private static void greenWithoutPhases() {
        due.says("or there is none");
        RoadDesk x = Roads.line(1, 30, 50, 50);
        due.is("at first", x.road(0, 3), 1);
        x.phase(1, 0, 0, Roads.LONG);
        due.is("a phase without it", x.road(0, 3), 0);
        x.phase(1, 0, 0, 0);
        due.is("the phase is gone", x.road(0, 3), 1);
        x.run(3);
        due.is("and stays so", x.road(0, 3), 1);
    }

    private static void greenWhereItEnds() {
        due.says("the phase at hand where it ends");
        RoadDesk x = Roads.line(1, 30, 50, 50);
        x.phase(1, 0, 0, Roads.LONG);
        x.phase(2, 0, 2, Roads.LONG);
        due.is("edge 0 ends there", x.road(0, 3), 0);
        due.is("edge 1 begins there", x.road(1, 3), 1);
        x.phase(0, 0, 0, Roads.LONG);
        x.phase(1, 0, 1, Roads.LONG);
        due.is("edge 0 begins where it is red", x.road(0, 3), 1);
    }

    private static void lightsComeFirst() {
        due.says("A STEP does this, in order: LIGHTS, .. CROSSINGS");
        RoadDesk x = Roads.line(1, 30, 50, 50);
        Roads.red(x, 1);
        x.car(0, 0, 0, 1);
        Roads.run(x, 15);
        x.phase(1, 0, 0, 303);
        x.phase(1, 1, 1, Roads.LONG);
        x.run(2);
        due.at("red", x, 0, 0, 0, 30, 0);
        x.run(1);
        due.at("GREEN from the third step on", x, 0, 1, 0, 1, 1);
        // and the other way round: the step in which it turns red does not grant
        RoadDesk y = Roads.line(1, 30, 50, 50);
        Roads.red(y, 1);
        y.car(0, 0, 0, 1);
        Roads.run(y, 15);
        y.phase(1, 0, 1, 101);
        y.phase(1, 1, 0, Roads.LONG);
        y.run(1);
        due.at("red at once", y, 0, 0, 0, 30, 0);
    }
}
