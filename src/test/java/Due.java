/** Counts and prints the answers that are not as due, and ends a test. */
final class Due {
    private final String test;
    private String sentence = "";
    private int asked = 0;
    private int wrong = 0;

    Due(String test) {
        this.test = test;
    }

    /** The words of the document that the answers from here on are due by. */
    void says(String words) {
        sentence = " '" + words + "'";
    }

    void is(String call, long got, long want) {
        asked++;
        if (got != want) {
            wrong++;
            System.out.println(test + sentence + ": " + call + " answered " + got + ", due is " + want);
        }
    }

    void yes(String call, boolean got) {
        is(call, got ? 1 : 0, 1);
    }

    void no(String call, boolean got) {
        is(call, got ? 1 : 0, 0);
    }

    void same(String call, boolean got, boolean want) {
        is(call, got ? 1 : 0, want ? 1 : 0);
    }

    /** Lane, FRONT and SPEED of a car that is ON this edge. */
    void at(String when, RoadDesk x, int c, int e, int l, int front, int speed) {
        is(when + ": edge of car " + c, x.of(c, 1), e);
        is(when + ": lane of car " + c, x.of(c, 2), l);
        is(when + ": FRONT of car " + c, x.of(c, 3), front);
        is(when + ": SPEED of car " + c, x.of(c, 4), speed);
    }

    int wrongSoFar() {
        return wrong;
    }

    void end() {
        System.out.println(test + ": " + asked + " answers, " + wrong + " not as due");
        if (wrong != 0) {
            System.exit(1);
        }
    }
}
