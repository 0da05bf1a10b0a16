import java.util.ArrayList;
import java.util.Comparator;
import java.util.List;

/**
 * The document told a second time, for ModelTest: with objects and lists, in the document's own words,
 * and sharing no thought with RoadDesk on how to hold the state.
 */
final class Model {
    static final int BAD = -1, NONE = -2;

    static final class Edge {
        int number, from, to, length, lanes, limit, rank, weight, came;
        boolean open = true;
        int[] mask = {65535, 65535};

        int cost() {
            int steps = 0;
            while (steps * limit < length) {
                steps++;
            }
            return steps + weight;
        }
    }

    static final class Type {
        int top = 6, accel = 1, size = 4, dawdle = 0;
    }

    static final class Phase {
        int edges, least, most;
    }

    static final class Junction {
        final List<Phase> phases = new ArrayList<>();
        int atHand, age;
    }

    static final class Car {
        int number, state, lane, front, speed, z, entered, nextSpeed;
        Type type;
        Edge edge, goal, granted;
        int grantedLane;
        Integer changed;
    }

    static final class Hold {
        Car car;
        int junction, fromLane, toLane;
        Edge from, to;
    }

    record Ahead(int gap, int speed) {
    }

    final Edge[] edges = new Edge[16];
    final Junction[] junctions = new Junction[8];
    final Type[] types = new Type[4];
    final Car[] cars = new Car[32];
    final List<Car> queue = new ArrayList<>();
    final List<Hold> holds = new ArrayList<>();
    final int[] totals = new int[7];

    Model() {
        for (int j = 0; j < 8; j++) {
            junctions[j] = new Junction();
        }
        for (int t = 0; t < 4; t++) {
            types[t] = new Type();
        }
        for (int c = 0; c < 32; c++) {
            cars[c] = new Car();
            cars[c].number = c;
        }
    }

    private static boolean in(int n, int least, int most) {
        return least <= n && n <= most;
    }

    private Edge edgeOr(int e) {
        return in(e, 0, 15) ? edges[e] : null;
    }

    // ---- promises 2 to 9

    boolean edge(int e, int ends, int length, int shape) {
        if (!in(e, 0, 15) || !in(ends, 0, 63) || !in(length, 20, 200) || !in(shape, 0, 255)) {
            return false;
        }
        Edge made = new Edge();
        made.number = e;
        made.from = ends >> 3;
        made.to = ends & 7;
        made.length = length;
        made.lanes = shape & 3;
        made.limit = shape >> 2 & 15;
        made.rank = shape >> 6;
        if (made.from == made.to || !in(made.lanes, 1, 2) || !in(made.limit, 1, 12)) {
            return false;
        }
        for (Car car : cars) {
            if (car.state != 0) {
                return false;
            }
        }
        edges[e] = made;
        return true;
    }

    boolean connect(int e, int l, int mask) {
        Edge edge = edgeOr(e);
        if (edge == null || !in(l, 0, edge.lanes - 1) || !in(mask, 0, 65535)) {
            return false;
        }
        edge.mask[l] = mask;
        return true;
    }

    boolean weight(int e, int w) {
        Edge edge = edgeOr(e);
        if (edge == null || !in(w, -1, 1000)) {
            return false;
        }
        if (w == -1) {
            edge.open = false;
        } else {
            edge.open = true;
            edge.weight = w;
        }
        return true;
    }

    boolean phase(int j, int k, int set, int times) {
        if (!in(j, 0, 7) || !in(k, 0, 3) || !in(set, 0, 65535)) {
            return false;
        }
        Junction junction = junctions[j];
        if (k > junction.phases.size()) {
            return false;
        }
        if (times == 0) {
            while (junction.phases.size() > k) {
                junction.phases.remove(k);
            }
        } else {
            Phase made = null;
            for (int least = 1; least <= 99; least++) {
                for (int most = least; most <= 99; most++) {
                    if (least + 100 * most == times) {
                        made = new Phase();
                        made.edges = set;
                        made.least = least;
                        made.most = most;
                    }
                }
            }
            if (made == null) {
                return false;
            }
            if (k == junction.phases.size()) {
                junction.phases.add(made);
            } else {
                junction.phases.set(k, made);
            }
        }
        junction.atHand = 0;
        junction.age = 0;
        return true;
    }

    boolean type(int t, int top, int accel, int shape) {
        if (!in(t, 0, 3) || !in(top, 1, 12) || !in(accel, 1, 3) || !in(shape, 0, 99) || !in(shape % 10, 3, 8)) {
            return false;
        }
        for (Car car : cars) {
            if (car.state != 0 && car.type == types[t]) {
                return false;
            }
        }
        types[t].top = top;
        types[t].accel = accel;
        types[t].size = shape % 10;
        types[t].dawdle = shape / 10;
        return true;
    }

    boolean car(int c, int t, int e, int goal) {
        if (!in(c, 0, 31) || !in(t, 0, 3) || edgeOr(e) == null || edgeOr(goal) == null || cars[c].state != 0) {
            return false;
        }
        Car made = new Car();
        made.number = c;
        made.state = 1;
        made.type = types[t];
        made.edge = edges[e];
        made.goal = edges[goal];
        made.z = 12345 + c;
        cars[c] = made;
        queue.add(made);
        return true;
    }

    boolean aim(int c, int goal) {
        if (!in(c, 0, 31) || edgeOr(goal) == null) {
            return false;
        }
        Car car = cars[c];
        if (car.state == 0 || car.granted != null) {
            return false;
        }
        if (car.state == 2 && car.edge == car.goal && edges[goal] != car.goal
                && !safe(car.speed, new Ahead(car.edge.length - car.front, 0))) {
            return false;
        }
        car.goal = edges[goal];
        return true;
    }

    boolean remove(int c) {
        if (!in(c, 0, 31) || cars[c].state == 0) {
            return false;
        }
        drop(cars[c]);
        return true;
    }

    private void drop(Car car) {
        queue.remove(car);
        holds.removeIf(h -> h.car == car);
        cars[car.number] = new Car();
        cars[car.number].number = car.number;
    }

    // ---- WAYS

    private boolean leads(Edge edge, int lane, Edge to) {
        return to != null && (edge.mask[lane] & 1 << to.number) != 0 && to.from == edge.to;
    }

    private boolean leads(Edge edge, Edge to) {
        boolean any = false;
        for (int l = 0; l < edge.lanes; l++) {
            any |= leads(edge, l, to);
        }
        return any;
    }

    /** The distances of all edges to the goal, the nearest edge settled first; -2 where it can't be reached. */
    int[] distances(Edge goal) {
        int[] settled = new int[16];
        java.util.Arrays.fill(settled, NONE);
        settled[goal.number] = 0;
        while (true) {
            int nearest = Integer.MAX_VALUE;
            int which = -1;
            for (Edge edge : edges) {
                if (edge == null || settled[edge.number] != NONE) {
                    continue;
                }
                for (Edge to : edges) {
                    if (to != null && to.open && settled[to.number] != NONE && leads(edge, to)
                            && to.cost() + settled[to.number] < nearest) {
                        nearest = to.cost() + settled[to.number];
                        which = edge.number;
                    }
                }
            }
            if (which < 0) {
                return settled;
            }
            settled[which] = nearest;
        }
    }

    Edge next(Edge edge, Edge goal) {
        int[] distance = distances(goal);
        if (edge == goal || distance[edge.number] == NONE) {
            return null;
        }
        for (Edge to : edges) {
            if (to != null && to.open && leads(edge, to) && distance[to.number] != NONE
                    && to.cost() + distance[to.number] == distance[edge.number]) {
                return to;
            }
        }
        throw new IllegalStateException("a distance without an edge by which it is so");
    }

    private Edge next(Car car) {
        return next(car.edge, car.goal);
    }

    // ---- gaps

    static int d(int v) {
        int sum = 0;
        for (int n = v - 2; n > 0; n -= 2) {
            sum += n;
        }
        return sum;
    }

    static boolean safe(int v, Ahead a) {
        return a == null || a.gap >= 0 && d(v) <= a.gap + d(a.speed);
    }

    /** From the greatest FRONT on. */
    private List<Car> onLane(Edge edge, int lane) {
        List<Car> there = new ArrayList<>();
        for (Car car : cars) {
            if (car.state == 2 && car.edge == edge && car.lane == lane) {
                there.add(car);
            }
        }
        there.sort(Comparator.comparingInt((Car car) -> -car.front));
        return there;
    }

    private Car carAhead(Edge edge, int lane, int front) {
        Car found = null;
        for (Car car : onLane(edge, lane)) {
            if (car.front > front) {
                found = car;
            }
        }
        return found;
    }

    private static Ahead behind(Car ahead, int front) {
        return ahead == null ? null : new Ahead(ahead.front - ahead.type.size - 1 - front, ahead.speed);
    }

    private Ahead ahead(Car car, Edge granted, int grantedLane) {
        Car own = carAhead(car.edge, car.lane, car.front);
        if (own != null || granted == null) {
            return behind(own, car.front);
        }
        return behind(carAhead(granted, grantedLane, 0), car.front - car.edge.length);
    }

    private static Ahead end(Car car, Edge granted) {
        if (granted == null) {
            return car.edge == car.goal ? null : new Ahead(car.edge.length - car.front, 0);
        }
        return granted == car.goal ? null : new Ahead(car.edge.length + granted.length - car.front, 0);
    }

    // ---- a STEP

    int run(int n) {
        if (!in(n, 0, 20)) {
            return BAD;
        }
        for (int i = 0; i < n; i++) {
            totals[0]++;
            lights();
            lanes();
            crossings();
            moves();
            entries();
        }
        return n;
    }

    private void lights() {
        for (int j = 0; j < 8; j++) {
            Junction junction = junctions[j];
            if (junction.phases.isEmpty()) {
                continue;
            }
            junction.age++;
            Phase phase = junction.phases.get(junction.atHand);
            boolean wanted = false;
            for (Car car : cars) {
                wanted |= car.state == 2 && car.edge.to == j && (phase.edges & 1 << car.edge.number) != 0
                        && car.granted == null && car.front >= car.edge.length - 30;
            }
            if (junction.age == phase.most || junction.age >= phase.least && !wanted) {
                junction.atHand = junction.atHand + 1 == junction.phases.size() ? 0 : junction.atHand + 1;
                junction.age = 0;
            }
        }
    }

    private boolean green(Edge edge) {
        Junction junction = junctions[edge.to];
        return junction.phases.isEmpty() || (junction.phases.get(junction.atHand).edges & 1 << edge.number) != 0;
    }

    private void lanes() {
        for (Edge edge : edges) {
            if (edge == null || edge.lanes != 2) {
                continue;
            }
            List<Car> order = new ArrayList<>(onLane(edge, 0));
            order.addAll(onLane(edge, 1));
            order.sort(Comparator.comparingInt((Car car) -> -car.front).thenComparingInt(car -> car.lane));
            for (Car car : order) {
                if (changes(car)) {
                    car.lane = 1 - car.lane;
                    car.changed = totals[0];
                    totals[3]++;
                }
            }
        }
    }

    private boolean changes(Car car) {
        int other = 1 - car.lane;
        if (car.granted != null || car.changed != null && car.changed >= totals[0] - 4 || !wants(car, other)) {
            return false;
        }
        if (!safe(car.speed, behind(carAhead(car.edge, other, car.front), car.front))) {
            return false;
        }
        for (Car back : onLane(car.edge, other)) {
            if (back.front <= car.front) {
                return back.granted == null && safe(back.speed, behind(car, back.front));
            }
        }
        return !anyGranted(car.edge, other);
    }

    private boolean anyGranted(Edge edge, int lane) {
        for (Car car : cars) {
            if (car.state == 2 && car.granted == edge && car.grantedLane == lane) {
                return true;
            }
        }
        return false;
    }

    private boolean wants(Car car, int other) {
        Edge next = next(car);
        boolean own = leads(car.edge, car.lane, next);
        boolean there = leads(car.edge, other, next);
        if (there && !own) {
            return true;
        }
        Ahead here = behind(carAhead(car.edge, car.lane, car.front), car.front);
        if (here == null || here.gap >= 20 || here.speed >= car.type.top) {
            return false;
        }
        Ahead beside = behind(carAhead(car.edge, other, car.front), car.front);
        int gap = beside == null ? 1000 : beside.gap;
        return gap - here.gap >= 10 && (car.edge == car.goal || there);
    }

    private void crossings() {
        for (int j = 0; j < 8; j++) {
            boolean again = true;
            while (again) {
                again = grantOne(j);
            }
        }
    }

    private boolean grantOne(int j) {
        List<Car> asking = new ArrayList<>();
        for (Car car : cars) {
            if (car.state == 2 && car.edge.to == j && asks(car)) {
                asking.add(car);
            }
        }
        asking.sort(Comparator.comparingInt((Car car) -> -car.edge.rank)
                .thenComparingInt(car -> car.edge.length - car.front)
                .thenComparingInt(car -> car.edge.number)
                .thenComparingInt(car -> car.lane));
        for (int i = 0; i < asking.size(); i++) {
            Car car = asking.get(i);
            if (can(car, j, asking.subList(0, i))) {
                car.granted = next(car);
                car.grantedLane = laneOn(car, car.granted);
                Hold hold = new Hold();
                hold.car = car;
                hold.junction = j;
                hold.from = car.edge;
                hold.fromLane = car.lane;
                hold.to = car.granted;
                hold.toLane = car.grantedLane;
                holds.add(hold);
                totals[4]++;
                return true;
            }
        }
        return false;
    }

    private static int laneOn(Car car, Edge to) {
        return Math.min(car.lane, to.lanes - 1);
    }

    private boolean asks(Car car) {
        Edge next = next(car);
        if (!green(car.edge) || car.edge == car.goal || car.edge.length - car.front > 40 || car.granted != null
                || !leads(car.edge, car.lane, next)) {
            return false;
        }
        Car before = carAhead(car.edge, car.lane, car.front);
        return before == null || before.granted == next && before.grantedLane == laneOn(car, next);
    }

    private boolean can(Car car, int j, List<Car> before) {
        Edge next = next(car);
        int lane = laneOn(car, next);
        if (!safe(car.speed, ahead(car, next, lane)) || !safe(car.speed, end(car, next))) {
            return false;
        }
        boolean held = false;
        for (Hold hold : holds) {
            if (hold.junction == j) {
                held = true;
                if (hold.from != car.edge || hold.fromLane != car.lane || hold.to != next || hold.toLane != lane) {
                    return false;
                }
            }
        }
        return !held || before.stream().allMatch(o -> o.edge == car.edge && o.lane == car.lane);
    }

    private void moves() {
        for (Car car : cars) {
            if (car.state == 2) {
                car.nextSpeed = speed(car);
            }
        }
        for (Car car : cars) {
            if (car.state == 2) {
                move(car);
            }
        }
        holds.removeIf(h -> h.car.edge == h.to && h.car.front >= h.car.type.size);
    }

    private static boolean fits(int u, Ahead a) {
        return a == null || u <= a.gap + Math.max(a.speed - 2, 0) && u + d(u) <= a.gap + d(a.speed);
    }

    private int speed(Car car) {
        int wish = Math.min(car.speed + car.type.accel,
                Math.max(car.speed - 2, Math.min(car.type.top, car.edge.limit)));
        Ahead ahead = ahead(car, car.granted, car.grantedLane);
        Ahead end = end(car, car.granted);
        int u = 0;
        for (int n = 0; n <= wish; n++) {
            if (fits(n, ahead) && fits(n, end)) {
                u = n;
            }
        }
        car.z = (int) (car.z * 1103515245L + 12345L);
        int draw = (car.z >>> 16) % 10;
        if (u > 0 && u - 1 >= car.speed - 2 && draw < car.type.dawdle) {
            u--;
        }
        return u;
    }

    private void move(Car car) {
        if (car.speed - car.nextSpeed > 2) {
            totals[5]++;
        }
        car.speed = car.nextSpeed;
        car.front += car.speed;
        if (car.front <= car.edge.length) {
            return;
        }
        if (car.edge == car.goal) {
            totals[2]++;
            totals[6] += totals[0] - car.entered;
            drop(car);
            return;
        }
        car.front -= car.edge.length;
        car.edge = car.granted;
        car.lane = car.grantedLane;
        car.granted = null;
        car.edge.came++;
    }

    private void entries() {
        for (Edge edge : edges) {
            if (edge == null || !edge.open) {
                continue;
            }
            for (Car car : queue) {
                if (car.edge == edge) {
                    enter(car);
                    break;
                }
            }
        }
        queue.removeIf(car -> car.state == 2);
    }

    private void enter(Car car) {
        Edge edge = car.edge;
        Edge next = next(car);
        int lane = edge == car.goal || leads(edge, 0, next) ? 0 : 1;
        if (edge != car.goal && next == null || anyGranted(edge, lane)) {
            return;
        }
        Car last = carAhead(edge, lane, 0);
        if (last != null && last.front - last.type.size - 1 < car.type.size) {
            return;
        }
        car.state = 2;
        car.lane = lane;
        car.front = car.type.size;
        car.speed = 0;
        car.entered = totals[0];
        edge.came++;
        totals[1]++;
    }

    // ---- promises 11 to 16

    private static int number(Edge edge) {
        return edge == null ? NONE : edge.number;
    }

    int of(int c, int what) {
        if (!in(c, 0, 31) || !in(what, 0, 7)) {
            return BAD;
        }
        Car car = cars[c];
        if (what == 0) {
            return car.state;
        }
        if (car.state == 0 || car.state == 1 && in(what, 2, 5)) {
            return NONE;
        }
        int[] answers = {car.state, number(car.edge), car.lane, car.front, car.speed, number(car.granted),
            number(car.goal), number(next(car))};
        return answers[what];
    }

    int lane(int e, int l, int k) {
        Edge edge = edgeOr(e);
        if (edge == null || !in(l, 0, edge.lanes - 1)) {
            return NONE;
        }
        List<Car> there = onLane(edge, l);
        return in(k, 0, there.size() - 1) ? there.get(k).number : NONE;
    }

    int road(int e, int what) {
        Edge edge = edgeOr(e);
        if (edge == null || !in(what, 0, 5)) {
            return BAD;
        }
        int on = onLane(edge, 0).size() + onLane(edge, 1).size();
        int waiting = (int) queue.stream().filter(car -> car.edge == edge).count();
        int[] answers = {on, waiting, edge.cost(), green(edge) ? 1 : 0, edge.came, edge.open ? 1 : 0};
        return answers[what];
    }

    int junction(int j, int what) {
        if (!in(j, 0, 7) || !in(what, 0, 4)) {
            return BAD;
        }
        Junction junction = junctions[j];
        List<Hold> here = new ArrayList<>(holds);
        here.removeIf(h -> h.junction != j);
        int[] answers = {junction.phases.isEmpty() ? NONE : junction.atHand, junction.age, here.size(),
            here.isEmpty() ? NONE : here.get(0).from.number, here.isEmpty() ? NONE : here.get(0).fromLane};
        return answers[what];
    }

    int way(int e, int goal, int what) {
        Edge edge = edgeOr(e);
        Edge to = edgeOr(goal);
        if (edge == null || to == null || !in(what, 0, 1)) {
            return BAD;
        }
        return what == 0 ? distances(to)[e] : number(next(edge, to));
    }

    int total(int what) {
        return in(what, 0, 6) ? totals[what] : BAD;
    }
}
