import java.util.ArrayList;
import java.util.HashSet;
import java.util.List;
import java.util.NoSuchElementException;
import java.util.Set;
import java.util.TreeMap;

/**
 * The building once more, told sentence by sentence as the document's terms tell it, with the Java library and
 * without a thought for speed, to be compared with LiftDesk.
 */
final class Model {
    private static final class Rider {
        int badge;
        int from;
        int to;
        Integer lift = null;
        boolean isAboard = false;
        boolean isDone = false;
        int doneOn = -1;
        int calledAt;
        Integer endAt = null;
    }

    private static final class Lift {
        int capacity;
        int floor = 0;
        int direction = 1;
        boolean isCalledOff = false;
        int ticksLeft = 0;

        boolean isInService() {
            return !isCalledOff && ticksLeft == 0;
        }
    }

    private final TreeMap<Integer, Integer> tenantOf = new TreeMap<>();
    private final TreeMap<Integer, Set<Integer>> hoursOf = new TreeMap<>();
    private final List<Integer> badges = new ArrayList<>();
    private final Set<Integer> revoked = new HashSet<>();
    private final List<Lift> lifts = new ArrayList<>();
    private final List<Rider> riders = new ArrayList<>();
    private int entries = 0;
    private int time = 0;
    private int opened = 0;
    private int refused = 0;
    private Integer alarm = null;

    private static void must(boolean holds, RuntimeException otherwise) {
        if (!holds) {
            throw otherwise;
        }
    }

    private static void index(boolean holds) {
        must(holds, new IndexOutOfBoundsException());
    }

    private static void argument(boolean holds) {
        must(holds, new IllegalArgumentException());
    }

    private static void state(boolean holds) {
        must(holds, new IllegalStateException());
    }

    private static boolean isWithin(int x, int least, int most) {
        return least <= x && x <= most;
    }

    private Lift lift(int lift) {
        index(isWithin(lift, 0, lifts.size() - 1));
        return lifts.get(lift);
    }

    private Rider rider(int rider) {
        index(isWithin(rider, 0, riders.size() - 1));
        return riders.get(rider);
    }

    private void badge(int badge) {
        index(isWithin(badge, 0, badges.size() - 1));
    }

    private static void floor(int floor) {
        index(isWithin(floor, 0, 9));
    }

    int addLift(int capacity) {
        argument(isWithin(capacity, 1, 4));
        state(lifts.size() < 3);
        Lift lift = new Lift();
        lift.capacity = capacity;
        lifts.add(lift);
        return lifts.size() - 1;
    }

    int setTenant(int floor, int tenant) {
        index(isWithin(floor, 1, 9));
        argument(isWithin(tenant, -1, 3));
        Integer before = tenant == -1 ? tenantOf.remove(floor) : tenantOf.put(floor, tenant);
        return before == null ? -1 : before;
    }

    int setHours(int floor, int first, int end) {
        index(isWithin(floor, 1, 9));
        argument(isWithin(first, 0, 99) && isWithin(end, 0, 100) && end > first);
        Set<Integer> hours = new HashSet<>();
        for (int time = first; time < end; time++) {
            hours.add(time);
        }
        hoursOf.put(floor, hours);
        return hours.size();
    }

    int addBadge(int tenant) {
        argument(isWithin(tenant, 0, 3));
        state(badges.size() < 8);
        badges.add(tenant);
        return badges.size() - 1;
    }

    boolean setRevoked(int badge, boolean isRevoked) {
        badge(badge);
        return isRevoked ? !revoked.add(badge) : revoked.remove(badge);
    }

    char reason(int badge, int floor) {
        badge(badge);
        floor(floor);
        if (floor == 0) {
            return 'n';
        } else if (revoked.contains(badge)) {
            return 'r';
        } else if (tenantOf.containsKey(floor)) {
            return tenantOf.get(floor).equals(badges.get(badge)) ? 'n' : 't';
        }
        return !hoursOf.containsKey(floor) || hoursOf.get(floor).contains(time % 100) ? 'n' : 'h';
    }

    int call(int badge, int from, int to) {
        badge(badge);
        floor(from);
        floor(to);
        argument(from != to);
        must(reason(badge, to) == 'n', new UnsupportedOperationException());
        state(riders.stream().allMatch(r -> r.isDone || r.badge != badge));
        state(alarm == null);
        state(riders.size() < 30);
        Rider rider = new Rider();
        rider.badge = badge;
        rider.from = from;
        rider.to = to;
        rider.calledAt = time;
        rider.lift = best(from);
        riders.add(rider);
        entries++;
        return riders.size() - 1;
    }

    char state(int rider) {
        Rider r = rider(rider);
        return r.isDone ? 'd' : r.isAboard ? 'a' : 'w';
    }

    int floorOf(int rider) {
        Rider r = rider(rider);
        return r.isDone ? r.doneOn : r.isAboard ? lifts.get(r.lift).floor : r.from;
    }

    int aim(int rider) {
        return rider(rider).to;
    }

    int liftOf(int rider) {
        Rider r = rider(rider);
        must(!r.isDone && r.lift != null, new NoSuchElementException());
        return r.lift;
    }

    int waited(int rider) {
        Rider r = rider(rider);
        return (r.endAt == null ? time : r.endAt) - r.calledAt;
    }

    int entries() {
        return entries;
    }

    int callOff(int lift) {
        Lift l = lift(lift);
        state(l.isInService());
        state(alarm == null);
        l.isCalledOff = true;
        int count = 0;
        for (Rider r : waiting()) {
            if (r.lift != null && r.lift == lift) {
                r.lift = null;
                count++;
            }
        }
        return count;
    }

    char service(int lift) {
        Lift l = lift(lift);
        return l.isInService() ? 's' : l.isCalledOff ? 'o' : 'c';
    }

    int floorOfLift(int lift) {
        return lift(lift).floor;
    }

    boolean isUp(int lift) {
        return lift(lift).direction == 1;
    }

    int aboard(int lift) {
        lift(lift);
        return inside(lift).size();
    }

    int score(int lift, int floor) {
        Lift l = lift(lift);
        floor(floor);
        long waiting = waiting().stream().filter(r -> r.lift != null && r.lift == lift).count();
        return Math.abs(l.floor - floor) + 2 * inside(lift).size() + 2 * (int) waiting;
    }

    int pass(int ticks) {
        argument(isWithin(ticks, 1, 100));
        int before = done();
        for (int i = 0; i < ticks; i++) {
            tick();
        }
        return done() - before;
    }

    int time() {
        return time;
    }

    int alarm(int floor) {
        floor(floor);
        state(alarm == null);
        state(done() < riders.size());
        alarm = floor;
        for (Rider r : riders) {
            if (!r.isDone) {
                r.to = 0;
            }
        }
        for (Rider r : waiting()) {
            r.lift = null;
            if (r.from == 0) {
                end(r, 0);
            }
        }
        return riders.size() - done();
    }

    boolean isAlarm() {
        return alarm != null;
    }

    int turn() {
        must(alarm != null && !waiting().isEmpty(), new NoSuchElementException());
        List<Integer> order = new ArrayList<>();
        order.add(alarm);
        for (int i = 1; i <= 9; i++) {
            order.add(alarm + i);
            order.add(alarm - i);
        }
        order.removeIf(floor -> waiting().stream().noneMatch(r -> r.from == floor));
        return order.get(0);
    }

    int opened() {
        return opened;
    }

    int refused() {
        return refused;
    }

    float doneShare() {
        must(!riders.isEmpty(), new ArithmeticException());
        return (float) done() / (float) riders.size();
    }

    double meanWait() {
        must(!riders.isEmpty(), new ArithmeticException());
        int sum = 0;
        for (int i = 0; i < riders.size(); i++) {
            sum += waited(i);
        }
        return (double) sum / (double) riders.size();
    }

    private List<Rider> waiting() {
        return riders.stream().filter(r -> !r.isDone && !r.isAboard).toList();
    }

    private List<Rider> inside(int lift) {
        return riders.stream().filter(r -> !r.isDone && r.isAboard && r.lift == lift).toList();
    }

    private int done() {
        return (int) riders.stream().filter(r -> r.isDone).count();
    }

    private void end(Rider r, int floor) {
        r.isDone = true;
        r.doneOn = floor;
        r.endAt = r.endAt == null ? Integer.valueOf(time) : r.endAt;
        entries++;
    }

    private Integer best(int floor) {
        Integer best = null;
        for (int i = lifts.size() - 1; i >= 0; i--) {
            if (lifts.get(i).isInService() && (best == null || score(i, floor) <= score(best, floor))) {
                best = i;
            }
        }
        return best;
    }

    private void tick() {
        if (alarm == null) {
            waiting().stream().filter(r -> r.lift == null).forEach(r -> r.lift = best(r.from));
        } else {
            waiting().forEach(r -> r.lift = null);
            if (!waiting().isEmpty()) {
                int floor = turn();
                waiting().stream().filter(r -> r.from == floor).forEach(r -> r.lift = best(r.from));
            }
        }
        for (int i = 0; i < lifts.size(); i++) {
            tickOf(i, lifts.get(i));
        }
        time++;
        if (done() == riders.size()) {
            alarm = null;
        }
    }

    private void tickOf(int number, Lift lift) {
        if (lift.ticksLeft > 0) {
            lift.ticksLeft--;
            return;
        }
        boolean isOpen = false;
        for (Rider r : inside(number)) {
            if (r.to == lift.floor && reason(r.badge, lift.floor) == 'n') {
                end(r, lift.floor);
                isOpen = true;
            } else if (r.to == lift.floor) {
                r.to = 0;
                refused++;
            }
        }
        for (Rider r : waiting()) {
            if (!lift.isCalledOff && r.lift != null && r.lift == number && r.from == lift.floor
                    && inside(number).size() < lift.capacity) {
                r.isAboard = true;
                r.endAt = time;
                entries++;
                isOpen = true;
            }
        }
        if (isOpen) {
            opened++;
        } else {
            travel(number, lift);
        }
    }

    private void travel(int number, Lift lift) {
        List<Integer> aims = new ArrayList<>();
        inside(number).forEach(r -> aims.add(r.to));
        if (inside(number).size() < lift.capacity && !lift.isCalledOff) {
            waiting().stream().filter(r -> r.lift != null && r.lift == number).forEach(r -> aims.add(r.from));
        }
        // The document tells no move for an aim on the lift's own floor: there must never be one.
        must(!aims.contains(lift.floor), new RuntimeException());
        if (aims.isEmpty()) {
            if (lift.isCalledOff) {
                lift.isCalledOff = false;
                lift.ticksLeft = 20;
            }
            return;
        }
        boolean isAhead = aims.stream().anyMatch(aim -> lift.direction == 1 ? aim > lift.floor : aim < lift.floor);
        if (!isAhead) {
            lift.direction = -lift.direction;
        }
        lift.floor += lift.direction;
    }
}
