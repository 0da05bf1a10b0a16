/**
 * Road traffic, car by car. README.md says how to use it; words in capitals are the terms of the document.
 *
 * A lane is held as one number, its spot: twice its edge, and 1 more if it is lane 1 of that.
 */
public final class RoadDesk {
    public static final int BAD = -1, NONE = -2;

    private static final int EDGES = 16, SPOTS = 32, WAYS = 256, JUNCTIONS = 8, CARS = 32, TYPES = 4;
    private static final int PHASES = 4, PHASE_SLOTS = 32, ALL_EDGES = 65535, TOTALS = 7;
    private static final int OFF = 0, WAITING = 1, ON = 2;
    /** A GAP that holds no car back: what stands for the one to nothing at all. */
    private static final int FAR = 1000;
    private static final int ASKING_SPAN = 40, LIGHT_SPAN = 30, CHANGE_SPAN = 20, CHANGE_GAIN = 10, CHANGE_REST = 4;
    private static final int STEPS = 0, ENTERED = 1, ARRIVED = 2, CHANGES = 3, GRANTS = 4, HARD_STOPS = 5, TRAVEL = 6;

    /** An edge that is not there has 0 lanes, and is not open. */
    private final int[] edgeLanes = new int[EDGES];
    private final int[] edgeFrom = new int[EDGES];
    private final int[] edgeTo = new int[EDGES];
    private final int[] edgeLength = new int[EDGES];
    private final int[] edgeLimit = new int[EDGES];
    private final int[] edgeRank = new int[EDGES];
    private final int[] edgeWeight = new int[EDGES];
    private final boolean[] edgeOpen = new boolean[EDGES];
    private final int[] edgeCame = new int[EDGES];
    private final int[] spotMask = new int[SPOTS];

    /** For edge e and GOAL g at EDGES * e + g; made anew by whatever changes them. */
    private final int[] wayDistance = new int[WAYS];
    private final int[] wayNext = new int[WAYS];

    private final int[] phaseCount = new int[JUNCTIONS];
    private final int[] phaseAtHand = new int[JUNCTIONS];
    private final int[] phaseAge = new int[JUNCTIONS];
    /** For junction j and phase k at PHASES * j + k. */
    private final int[] phaseEdges = new int[PHASE_SLOTS];
    private final int[] phaseTimes = new int[PHASE_SLOTS];

    private final int[] typeTop = new int[TYPES];
    private final int[] typeAccel = new int[TYPES];
    private final int[] typeSize = new int[TYPES];
    private final int[] typeDawdle = new int[TYPES];

    private final int[] carState = new int[CARS];
    private final int[] carType = new int[CARS];
    /** Of a WAITING car the edge that it waits for. */
    private final int[] carEdge = new int[CARS];
    /** The spot of a car that is ON, else NONE. */
    private final int[] carSpot = new int[CARS];
    private final int[] carFront = new int[CARS];
    private final int[] carSpeed = new int[CARS];
    private final int[] carGoal = new int[CARS];
    private final int[] carNoise = new int[CARS];
    /** The spot that the car is GRANTED, or NONE. */
    private final int[] carGrant = new int[CARS];
    /** The last crossing; kept apart from the spot, as a car may change lanes while it still HOLDS the junction. */
    private final int[] carCameFrom = new int[CARS];
    private final int[] carCameTo = new int[CARS];
    private final int[] carTicket = new int[CARS];
    private final int[] carEntered = new int[CARS];
    /** The step of the last change of lanes, or NONE. */
    private final int[] carChanged = new int[CARS];
    private final int[] carNextSpeed = new int[CARS];

    private final int[] totals = new int[TOTALS];
    private int nextTicket = 0;

    public RoadDesk() {
        for (int t = 0; t < TYPES; t++) {
            typeTop[t] = 6;
            typeAccel[t] = 1;
            typeSize[t] = 4;
        }
        for (int c = 0; c < CARS; c++) {
            takeOff(c);
        }
        findWays();
    }

    public boolean edge(int e, int ends, int length, int shape) {
        if (e < 0 || e >= EDGES || ends < 0 || ends >= JUNCTIONS * JUNCTIONS || length < 20 || length > 200) {
            return false;
        }
        int from = ends / JUNCTIONS;
        int to = ends % JUNCTIONS;
        int lanes = shape % 4;
        int limit = shape / 4 % 16;
        if (from == to || shape < 0 || shape >= 256 || lanes < 1 || lanes > 2 || limit < 1 || limit > 12) {
            return false;
        }
        if (isAnyCarThere()) {
            return false;
        }
        edgeLanes[e] = lanes;
        edgeFrom[e] = from;
        edgeTo[e] = to;
        edgeLength[e] = length;
        edgeLimit[e] = limit;
        edgeRank[e] = shape / 64;
        edgeWeight[e] = 0;
        edgeOpen[e] = true;
        edgeCame[e] = 0;
        spotMask[2 * e] = ALL_EDGES;
        spotMask[2 * e + 1] = ALL_EDGES;
        findWays();
        return true;
    }

    public boolean connect(int e, int l, int mask) {
        if (!isLane(e, l) || mask < 0 || mask > ALL_EDGES) {
            return false;
        }
        spotMask[2 * e + l] = mask;
        findWays();
        return true;
    }

    public boolean weight(int e, int w) {
        if (!isEdge(e) || w < -1 || w > 1000) {
            return false;
        }
        edgeOpen[e] = w >= 0;
        if (w >= 0) {
            edgeWeight[e] = w;
        }
        findWays();
        return true;
    }

    public boolean phase(int j, int k, int edges, int times) {
        if (j < 0 || j >= JUNCTIONS || k < 0 || k >= PHASES || k > phaseCount[j]) {
            return false;
        }
        if (edges < 0 || edges > ALL_EDGES) {
            return false;
        }
        if (times != 0 && (times < 0 || times > 9999 || times % 100 < 1 || times % 100 > times / 100)) {
            return false;
        }
        if (times == 0) {
            phaseCount[j] = k;
        } else {
            phaseEdges[PHASES * j + k] = edges;
            phaseTimes[PHASES * j + k] = times;
            phaseCount[j] = k == phaseCount[j] ? k + 1 : phaseCount[j];
        }
        phaseAtHand[j] = 0;
        phaseAge[j] = 0;
        return true;
    }

    public boolean type(int t, int top, int accel, int shape) {
        if (t < 0 || t >= TYPES || top < 1 || top > 12 || accel < 1 || accel > 3) {
            return false;
        }
        int size = shape % 10;
        if (shape < 0 || shape >= 100 || size < 3 || size > 8 || isTypeInUse(t)) {
            return false;
        }
        typeTop[t] = top;
        typeAccel[t] = accel;
        typeSize[t] = size;
        typeDawdle[t] = shape / 10;
        return true;
    }

    public boolean car(int c, int t, int e, int goal) {
        if (c < 0 || c >= CARS || t < 0 || t >= TYPES || !isEdge(e) || !isEdge(goal) || carState[c] != OFF) {
            return false;
        }
        carState[c] = WAITING;
        carType[c] = t;
        carEdge[c] = e;
        carGoal[c] = goal;
        carNoise[c] = 12345 + c;
        carChanged[c] = NONE;
        carTicket[c] = nextTicket;
        nextTicket++;
        return true;
    }

    public boolean aim(int c, int goal) {
        if (c < 0 || c >= CARS || !isEdge(goal) || carState[c] == OFF || carGrant[c] != NONE) {
            return false;
        }
        int e = carEdge[c];
        if (carState[c] == ON && carGoal[c] == e && goal != e) {
            if (!isSafe(carSpeed[c], edgeLength[e] - carFront[c], 0)) {
                return false;
            }
        }
        carGoal[c] = goal;
        return true;
    }

    public boolean remove(int c) {
        if (c < 0 || c >= CARS || carState[c] == OFF) {
            return false;
        }
        takeOff(c);
        return true;
    }

    public int run(int n) {
        if (n < 0 || n > 20) {
            return BAD;
        }
        for (int i = 0; i < n; i++) {
            totals[STEPS]++;
            turnLights();
            changeLanes();
            grantCrossings();
            moveCars();
            letCarsIn();
        }
        return n;
    }

    public int of(int c, int what) {
        if (c < 0 || c >= CARS || what < 0 || what > 7) {
            return BAD;
        }
        if (what == 0) {
            return carState[c];
        }
        if (carState[c] == OFF || carState[c] == WAITING && what >= 2 && what <= 5) {
            return NONE;
        }
        switch (what) {
            case 1: return carEdge[c];
            case 2: return carSpot[c] % 2;
            case 3: return carFront[c];
            case 4: return carSpeed[c];
            case 5: return carGrant[c] == NONE ? NONE : carGrant[c] / 2;
            case 6: return carGoal[c];
            default: return nextOf(c);
        }
    }

    public int lane(int e, int l, int k) {
        if (!isLane(e, l) || k < 0 || k >= CARS) {
            return NONE;
        }
        int spot = 2 * e + l;
        for (int c = 0; c < CARS; c++) {
            if (carSpot[c] == spot && countBeyond(spot, carFront[c]) == k) {
                return c;
            }
        }
        return NONE;
    }

    public int road(int e, int what) {
        if (!isEdge(e)) {
            return BAD;
        }
        switch (what) {
            case 0: return countCars(e, ON);
            case 1: return countCars(e, WAITING);
            case 2: return costOf(e);
            case 3: return isGreen(e) ? 1 : 0;
            case 4: return edgeCame[e];
            case 5: return edgeOpen[e] ? 1 : 0;
            default: return BAD;
        }
    }

    public int junction(int j, int what) {
        if (j < 0 || j >= JUNCTIONS || what < 0 || what > 4) {
            return BAD;
        }
        if (what == 0) {
            return phaseCount[j] == 0 ? NONE : phaseAtHand[j];
        }
        if (what == 1) {
            return phaseAge[j];
        }
        int holders = 0;
        int from = NONE;
        for (int c = 0; c < CARS; c++) {
            if (holds(c, j)) {
                holders++;
                from = heldFrom(c, j);
            }
        }
        if (what == 2) {
            return holders;
        }
        if (from == NONE) {
            return NONE;
        }
        return what == 3 ? from / 2 : from % 2;
    }

    public int way(int e, int goal, int what) {
        if (!isEdge(e) || !isEdge(goal) || what < 0 || what > 1) {
            return BAD;
        }
        return what == 0 ? wayDistance[EDGES * e + goal] : wayNext[EDGES * e + goal];
    }

    public int total(int what) {
        return what < 0 || what >= TOTALS ? BAD : totals[what];
    }

    // ---- edges and ways

    private boolean isEdge(int e) {
        return e >= 0 && e < EDGES && edgeLanes[e] > 0;
    }

    private boolean isLane(int e, int l) {
        return e >= 0 && e < EDGES && l >= 0 && l < edgeLanes[e];
    }

    private int costOf(int e) {
        int limit = edgeLimit[e];
        return limit < 1 ? 0 : (edgeLength[e] + limit - 1) / limit + edgeWeight[e];
    }

    private boolean leads(int spot, int f) {
        return f >= 0 && edgeLanes[f] > 0 && edgeFrom[f] == edgeTo[spot / 2] && (spotMask[spot] >> f & 1) == 1;
    }

    private boolean edgeLeads(int e, int f) {
        return leads(2 * e, f) || edgeLanes[e] == 2 && leads(2 * e + 1, f);
    }

    private void findWays() {
        for (int goal = 0; goal < EDGES; goal++) {
            findWaysTo(goal);
        }
    }

    private void findWaysTo(int goal) {
        for (int e = 0; e < EDGES; e++) {
            wayDistance[EDGES * e + goal] = NONE;
            wayNext[EDGES * e + goal] = NONE;
        }
        if (edgeLanes[goal] == 0) {
            return;
        }
        wayDistance[EDGES * goal + goal] = 0;
        boolean better = true;
        // a way has fewer than EDGES crossings, and each round settles those with one more
        for (int round = 0; round < EDGES && better; round++) {
            better = false;
            for (int e = 0; e < EDGES; e++) {
                if (e != goal && edgeLanes[e] > 0 && findNext(e, goal)) {
                    better = true;
                }
            }
        }
    }

    /** Sets the NEXT edge by the distances so far; whether the distance from e has changed by it. */
    private boolean findNext(int e, int goal) {
        int best = NONE;
        int least = NONE;
        for (int f = 0; f < EDGES; f++) {
            int onward = wayDistance[EDGES * f + goal];
            if (onward != NONE && edgeOpen[f] && edgeLeads(e, f)) {
                int sum = costOf(f) + onward;
                if (best == NONE || sum < least) {
                    best = f;
                    least = sum;
                }
            }
        }
        boolean changed = wayDistance[EDGES * e + goal] != least;
        wayDistance[EDGES * e + goal] = least;
        wayNext[EDGES * e + goal] = best;
        return changed;
    }

    // ---- cars

    private boolean isAnyCarThere() {
        for (int c = 0; c < CARS; c++) {
            if (carState[c] != OFF) {
                return true;
            }
        }
        return false;
    }

    private boolean isTypeInUse(int t) {
        for (int c = 0; c < CARS; c++) {
            if (carState[c] != OFF && carType[c] == t) {
                return true;
            }
        }
        return false;
    }

    private void takeOff(int c) {
        carState[c] = OFF;
        carSpot[c] = NONE;
        carGrant[c] = NONE;
        carCameFrom[c] = NONE;
        carCameTo[c] = NONE;
    }

    private int countCars(int e, int state) {
        int count = 0;
        for (int c = 0; c < CARS; c++) {
            if (carState[c] == state && carEdge[c] == e) {
                count++;
            }
        }
        return count;
    }

    private int sizeOf(int c) {
        return typeSize[carType[c]];
    }

    private int nextOf(int c) {
        return wayNext[EDGES * carEdge[c] + carGoal[c]];
    }

    private int countBeyond(int spot, int front) {
        int count = 0;
        for (int c = 0; c < CARS; c++) {
            if (carSpot[c] == spot && carFront[c] > front) {
                count++;
            }
        }
        return count;
    }

    /** The car with the least FRONT above this one, or NONE. */
    private int nearestBeyond(int spot, int front) {
        int nearest = NONE;
        for (int c = 0; c < CARS; c++) {
            if (carSpot[c] == spot && carFront[c] > front && (nearest == NONE || carFront[c] < carFront[nearest])) {
                nearest = c;
            }
        }
        return nearest;
    }

    /** The car with the greatest FRONT that is not above this one, or NONE. */
    private int nearestUpTo(int spot, int front) {
        int nearest = NONE;
        for (int c = 0; c < CARS; c++) {
            if (carSpot[c] == spot && carFront[c] <= front && (nearest == NONE || carFront[c] > carFront[nearest])) {
                nearest = c;
            }
        }
        return nearest;
    }

    private boolean isGranted(int spot) {
        for (int c = 0; c < CARS; c++) {
            if (carGrant[c] == spot) {
                return true;
            }
        }
        return false;
    }

    // ---- gaps

    /** D(v), in closed form. */
    private static int brakingSpan(int v) {
        return v / 2 * ((v - 1) / 2);
    }

    private static boolean isSafe(int v, int gap, int w) {
        return gap >= 0 && brakingSpan(v) <= gap + brakingSpan(w);
    }

    /** From car c to one before it, on its own edge or on the one that it is to cross to. */
    private int gapTo(int c, int ahead) {
        int e = carEdge[c];
        int shift = carEdge[ahead] == e ? 0 : edgeLength[e];
        return carFront[ahead] - sizeOf(ahead) - 1 - carFront[c] + shift;
    }

    /** The car AHEAD of c, as if c were GRANTED this spot (or NONE). */
    private int leaderOf(int c, int grant) {
        int ahead = nearestBeyond(carSpot[c], carFront[c]);
        if (ahead == NONE && grant != NONE) {
            ahead = nearestBeyond(grant, 0);
        }
        return ahead;
    }

    /** The GAP up to the END of c, as if c were GRANTED this spot (or NONE); FAR if it has no END. */
    private int gapToEnd(int c, int grant) {
        int e = carEdge[c];
        int last = grant == NONE ? e : grant / 2;
        if (carGoal[c] == last) {
            return FAR;
        }
        int rest = edgeLength[e] - carFront[c];
        return grant == NONE ? rest : rest + edgeLength[last];
    }

    // ---- LIGHTS

    private void turnLights() {
        for (int j = 0; j < JUNCTIONS; j++) {
            if (phaseCount[j] > 0) {
                phaseAge[j]++;
                int times = phaseTimes[PHASES * j + phaseAtHand[j]];
                boolean over = phaseAge[j] >= times / 100;
                if (over || phaseAge[j] >= times % 100 && !isPhaseNeeded(j)) {
                    phaseAtHand[j] = (phaseAtHand[j] + 1) % phaseCount[j];
                    phaseAge[j] = 0;
                }
            }
        }
    }

    private boolean isPhaseNeeded(int j) {
        int edges = phaseEdges[PHASES * j + phaseAtHand[j]];
        for (int c = 0; c < CARS; c++) {
            int e = carEdge[c];
            boolean here = carState[c] == ON && edgeTo[e] == j && (edges >> e & 1) == 1;
            if (here && carGrant[c] == NONE && carFront[c] >= edgeLength[e] - LIGHT_SPAN) {
                return true;
            }
        }
        return false;
    }

    private boolean isGreen(int e) {
        int j = edgeTo[e];
        return phaseCount[j] == 0 || (phaseEdges[PHASES * j + phaseAtHand[j]] >> e & 1) == 1;
    }

    // ---- LANES

    private void changeLanes() {
        for (int e = 0; e < EDGES; e++) {
            if (edgeLanes[e] == 2) {
                changeLanesOn(e);
            }
        }
    }

    private void changeLanesOn(int e) {
        int done = 0;
        for (int n = 0; n < CARS; n++) {
            int c = foremostOf(e, done);
            if (c == NONE) {
                return;
            }
            done |= 1 << c;
            if (mayChange(c) && wantsToChange(c) && hasRoomBeside(c)) {
                carSpot[c] ^= 1;
                carChanged[c] = totals[STEPS];
                totals[CHANGES]++;
            }
        }
    }

    /** The car on e with the greatest FRONT, on lane 0 if there are two, without those whose bit is in done. */
    private int foremostOf(int e, int done) {
        int first = NONE;
        for (int c = 0; c < CARS; c++) {
            if (carState[c] == ON && carEdge[c] == e && (done >> c & 1) == 0) {
                if (first == NONE || carFront[c] > carFront[first]
                        || carFront[c] == carFront[first] && carSpot[c] < carSpot[first]) {
                    first = c;
                }
            }
        }
        return first;
    }

    private boolean mayChange(int c) {
        return carGrant[c] == NONE && (carChanged[c] == NONE || totals[STEPS] - carChanged[c] > CHANGE_REST);
    }

    private boolean wantsToChange(int c) {
        int own = carSpot[c];
        int other = own ^ 1;
        int next = nextOf(c);
        boolean otherLeads = leads(other, next);
        if (otherLeads && !leads(own, next)) {
            return true;
        }
        int ahead = nearestBeyond(own, carFront[c]);
        if (ahead == NONE || carSpeed[ahead] >= typeTop[carType[c]]) {
            return false;
        }
        int gap = gapTo(c, ahead);
        int beside = nearestBeyond(other, carFront[c]);
        int otherGap = beside == NONE ? FAR : gapTo(c, beside);
        return gap < CHANGE_SPAN && otherGap >= gap + CHANGE_GAIN && (otherLeads || carGoal[c] == carEdge[c]);
    }

    private boolean hasRoomBeside(int c) {
        int other = carSpot[c] ^ 1;
        int ahead = nearestBeyond(other, carFront[c]);
        if (ahead != NONE) {
            int gap = gapTo(c, ahead);
            if (!isSafe(carSpeed[c], gap, carSpeed[ahead])) {
                return false;
            }
        }
        int behind = nearestUpTo(other, carFront[c]);
        if (behind == NONE) {
            return !isGranted(other);
        }
        int gapBehind = gapTo(behind, c);
        return carGrant[behind] == NONE && isSafe(carSpeed[behind], gapBehind, carSpeed[c]);
    }

    // ---- CROSSINGS

    private void grantCrossings() {
        for (int j = 0; j < JUNCTIONS; j++) {
            // each round but the last grants a car that never asks again in this step
            for (int round = 0; round <= CARS; round++) {
                int asking = askersAt(j);
                int c = firstThatCan(j, asking);
                if (c == NONE) {
                    break;
                }
                carGrant[c] = spotToAskFor(c);
                totals[GRANTS]++;
            }
        }
    }

    private int firstThatCan(int j, int asking) {
        int first = NONE;
        for (int c = 0; c < CARS; c++) {
            if ((asking >> c & 1) == 1 && (first == NONE || standsBefore(c, first))) {
                if (canCrossSafely(c) && mayHold(c, j, asking)) {
                    first = c;
                }
            }
        }
        return first;
    }

    /** The cars that ASK, each as the bit of its number. */
    private int askersAt(int j) {
        int asking = 0;
        for (int c = 0; c < CARS; c++) {
            if (carState[c] == ON && edgeTo[carEdge[c]] == j && asks(c)) {
                asking |= 1 << c;
            }
        }
        return asking;
    }

    private boolean asks(int c) {
        int e = carEdge[c];
        if (carGrant[c] != NONE || carGoal[c] == e || edgeLength[e] - carFront[c] > ASKING_SPAN || !isGreen(e)) {
            return false;
        }
        int next = nextOf(c);
        if (!leads(carSpot[c], next)) {
            return false;
        }
        int ahead = nearestBeyond(carSpot[c], carFront[c]);
        return ahead == NONE || carGrant[ahead] == spotToAskFor(c);
    }

    /** The own lane of the NEXT edge, or its only one; NONE without a NEXT edge. */
    private int spotToAskFor(int c) {
        int next = nextOf(c);
        if (next == NONE) {
            return NONE;
        }
        return edgeLanes[next] == 2 ? 2 * next + carSpot[c] % 2 : 2 * next;
    }

    private boolean standsBefore(int c, int d) {
        int e = carEdge[c];
        int f = carEdge[d];
        if (edgeRank[e] != edgeRank[f]) {
            return edgeRank[e] > edgeRank[f];
        }
        int rest = edgeLength[e] - carFront[c];
        int otherRest = edgeLength[f] - carFront[d];
        if (rest != otherRest) {
            return rest < otherRest;
        }
        return carSpot[c] < carSpot[d];
    }

    private boolean canCrossSafely(int c) {
        int grant = spotToAskFor(c);
        int end = gapToEnd(c, grant);
        if (!isSafe(carSpeed[c], end, 0)) {
            return false;
        }
        int ahead = leaderOf(c, grant);
        if (ahead == NONE) {
            return true;
        }
        int gap = gapTo(c, ahead);
        return isSafe(carSpeed[c], gap, carSpeed[ahead]);
    }

    /** Whether the junction is HELD by none, or c may hold it together with those that do. */
    private boolean mayHold(int c, int j, int asking) {
        int grant = spotToAskFor(c);
        boolean held = false;
        for (int d = 0; d < CARS; d++) {
            if (holds(d, j)) {
                held = true;
                if (heldFrom(d, j) != carSpot[c] || heldTo(d, j) != grant) {
                    return false;
                }
            }
        }
        return !held || !isOutrun(c, asking);
    }

    private boolean isOutrun(int c, int asking) {
        for (int d = 0; d < CARS; d++) {
            if ((asking >> d & 1) == 1 && carSpot[d] != carSpot[c] && standsBefore(d, c)) {
                return true;
            }
        }
        return false;
    }

    private boolean isBound(int c, int j) {
        return carGrant[c] != NONE && edgeTo[carEdge[c]] == j;
    }

    /** On a short edge a car may hold the junction behind it and the one before it at once. */
    private boolean holds(int c, int j) {
        boolean leaving = carCameFrom[c] != NONE && edgeFrom[carEdge[c]] == j && carFront[c] < sizeOf(c);
        return leaving || isBound(c, j);
    }

    private int heldFrom(int c, int j) {
        return isBound(c, j) ? carSpot[c] : carCameFrom[c];
    }

    private int heldTo(int c, int j) {
        return isBound(c, j) ? carGrant[c] : carCameTo[c];
    }

    // ---- MOVES

    private void moveCars() {
        for (int c = 0; c < CARS; c++) {
            if (carState[c] == ON) {
                int speed = greatestSpeed(c);
                carNextSpeed[c] = dawdled(c, speed);
            }
        }
        for (int c = 0; c < CARS; c++) {
            if (carState[c] == ON) {
                moveOn(c);
            }
        }
    }

    private int greatestSpeed(int c) {
        int end = gapToEnd(c, carGrant[c]);
        int wish = wishOf(c);
        int speed = heldBack(wish, end, 0);
        int ahead = leaderOf(c, carGrant[c]);
        if (ahead == NONE) {
            return speed;
        }
        int gap = gapTo(c, ahead);
        return heldBack(speed, gap, carSpeed[ahead]);
    }

    private int wishOf(int c) {
        int t = carType[c];
        int limit = edgeLimit[carEdge[c]];
        int wish = typeTop[t] < limit ? typeTop[t] : limit;
        wish = wish < carSpeed[c] - 2 ? carSpeed[c] - 2 : wish;
        return wish < carSpeed[c] + typeAccel[t] ? wish : carSpeed[c] + typeAccel[t];
    }

    /** The greatest speed up to this one that keeps clear of what moves with speed w behind the gap. */
    private static int heldBack(int speed, int gap, int w) {
        int reach = w > 2 ? gap + w - 2 : gap;
        int span = gap + brakingSpan(w);
        for (int u = speed; u > 0; u--) {
            if (u <= reach && u + brakingSpan(u) <= span) {
                return u;
            }
        }
        return 0;
    }

    private int dawdled(int c, int u) {
        carNoise[c] = carNoise[c] * 1103515245 + 12345;
        boolean dawdles = (carNoise[c] >>> 16) % 10 < typeDawdle[carType[c]];
        return dawdles && u > 0 && u - 1 >= carSpeed[c] - 2 ? u - 1 : u;
    }

    private void moveOn(int c) {
        int e = carEdge[c];
        int u = carNextSpeed[c];
        if (u < carSpeed[c] - 2) {
            totals[HARD_STOPS]++;
        }
        carSpeed[c] = u;
        carFront[c] += u;
        if (carFront[c] <= edgeLength[e]) {
            return;
        }
        if (carGoal[c] == e) {
            totals[ARRIVED]++;
            totals[TRAVEL] += totals[STEPS] - carEntered[c];
            takeOff(c);
        } else if (carGrant[c] != NONE) {
            carFront[c] -= edgeLength[e];
            carCameFrom[c] = carSpot[c];
            carCameTo[c] = carGrant[c];
            carSpot[c] = carGrant[c];
            carEdge[c] = carGrant[c] / 2;
            carGrant[c] = NONE;
            edgeCame[carEdge[c]]++;
        }
    }

    // ---- ENTRIES

    private void letCarsIn() {
        for (int e = 0; e < EDGES; e++) {
            if (edgeOpen[e]) {
                int c = firstWaiting(e);
                if (c != NONE) {
                    letIn(c);
                }
            }
        }
    }

    private int firstWaiting(int e) {
        int first = NONE;
        for (int c = 0; c < CARS; c++) {
            if (carState[c] == WAITING && carEdge[c] == e) {
                if (first == NONE || carTicket[c] < carTicket[first]) {
                    first = c;
                }
            }
        }
        return first;
    }

    private void letIn(int c) {
        int spot = spotToEnter(c);
        if (spot == NONE || isGranted(spot)) {
            return;
        }
        int size = sizeOf(c);
        int last = nearestBeyond(spot, 0);
        if (last != NONE && carFront[last] - sizeOf(last) - 1 < size) {
            return;
        }
        carState[c] = ON;
        carSpot[c] = spot;
        carFront[c] = size;
        carSpeed[c] = 0;
        carEntered[c] = totals[STEPS];
        edgeCame[carEdge[c]]++;
        totals[ENTERED]++;
    }

    private int spotToEnter(int c) {
        int e = carEdge[c];
        if (carGoal[c] == e) {
            return 2 * e;
        }
        int next = nextOf(c);
        for (int l = 0; l < edgeLanes[e]; l++) {
            if (leads(2 * e + l, next)) {
                return 2 * e + l;
            }
        }
        return NONE;
    }
}
