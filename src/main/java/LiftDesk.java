import java.util.ArrayList;
import java.util.NoSuchElementException;

/** The desk of a porter, who looks after the lifts, the floors and the badges of a building. */
public final class LiftDesk {
    private static final int LOBBY = 0;
    private static final int FLOORS = 10;
    private static final int NO_FLOOR = -1;
    private static final int TENANTS = 4;
    private static final int NO_TENANT = -1;
    private static final int DAY = 100;
    private static final int MOST_BADGES = 8;
    private static final int MOST_RIDERS = 30;
    private static final int MOST_LIFTS = 3;
    private static final int MOST_CAPACITY = 4;
    private static final int MOST_TICKS = 100;
    private static final int CLEANING_TICKS = 20;
    private static final int SCORE_OF_A_RIDER = 2;

    private static final char MAY_ENTER = 'n';
    private static final char REVOKED = 'r';
    private static final char OTHER_TENANT = 't';
    private static final char OUT_OF_HOURS = 'h';

    private static final char WAITS = 'w';
    private static final char ABOARD = 'a';
    private static final char DONE = 'd';

    private static final char IN_SERVICE = 's';
    private static final char CALLED_OFF = 'o';
    private static final char BEING_CLEANED = 'c';

    private final int[] tenants = new int[FLOORS];
    private final int[] firstTimes = new int[FLOORS];
    private final int[] endTimes = new int[FLOORS];
    private final ArrayList<Badge> badges = new ArrayList<Badge>();
    private final ArrayList<Lift> lifts = new ArrayList<Lift>();
    private final ArrayList<Rider> riders = new ArrayList<Rider>();
    /** The riders who are not done, in the order in which they called: eight at most, one of each badge. */
    private final ArrayList<Rider> present = new ArrayList<Rider>();
    private final ArrayList<Entry> log = new ArrayList<Entry>();
    private int now = 0;
    private int alarmFloor = NO_FLOOR;
    private int openings = 0;
    private int refusals = 0;

    public LiftDesk() {
        for (int floor = 0; floor < FLOORS; floor++) {
            tenants[floor] = NO_TENANT;
            endTimes[floor] = DAY;
        }
    }

    // ---- building

    public int addLift(int capacity) throws IllegalArgumentException, IllegalStateException {
        if (capacity < 1 || capacity > MOST_CAPACITY) {
            throw new IllegalArgumentException("the capacity is out of range");
        }
        if (lifts.size() >= MOST_LIFTS) {
            throw new IllegalStateException("there are 3 lifts");
        }
        Lift lift = new Lift(lifts.size(), capacity);
        lifts.add(lift);
        return lift.number;
    }

    public int setTenant(int floor, int tenant) throws IndexOutOfBoundsException, IllegalArgumentException {
        if (floor <= LOBBY || floor >= FLOORS) {
            throw new IndexOutOfBoundsException("the floor is out of range");
        }
        if (tenant < NO_TENANT || tenant >= TENANTS) {
            throw new IllegalArgumentException("the tenant is out of range");
        }
        int before = tenants[floor];
        tenants[floor] = tenant;
        return before;
    }

    public int setHours(int floor, int first, int end) throws IndexOutOfBoundsException, IllegalArgumentException {
        if (floor <= LOBBY || floor >= FLOORS) {
            throw new IndexOutOfBoundsException("the floor is out of range");
        }
        if (first < 0 || first >= DAY || end <= first || end > DAY) {
            throw new IllegalArgumentException("a time is out of range");
        }
        firstTimes[floor] = first;
        endTimes[floor] = end;
        return end - first;
    }

    public int addBadge(int tenant) throws IllegalArgumentException, IllegalStateException {
        if (tenant < 0 || tenant >= TENANTS) {
            throw new IllegalArgumentException("the tenant is out of range");
        }
        if (badges.size() >= MOST_BADGES) {
            throw new IllegalStateException("there are 8 badges");
        }
        int number = badges.size();
        badges.add(new Badge(tenant));
        return number;
    }

    public boolean setRevoked(int badge, boolean isRevoked) throws IndexOutOfBoundsException {
        Badge changed = badgeNumbered(badge);
        boolean before = changed.isRevoked;
        changed.isRevoked = isRevoked;
        return before;
    }

    public char reason(int badge, int floor) throws IndexOutOfBoundsException {
        Badge asked = badgeNumbered(badge);
        checkFloor(floor);
        return whyNot(asked, floor);
    }

    // ---- riders

    public int call(int badge, int from, int to) throws IndexOutOfBoundsException, IllegalArgumentException,
            UnsupportedOperationException, IllegalStateException {
        Badge shown = badgeNumbered(badge);
        checkFloor(from);
        checkFloor(to);
        if (from == to) {
            throw new IllegalArgumentException("both floors are the same");
        }
        if (whyNot(shown, to) != MAY_ENTER) {
            throw new UnsupportedOperationException("the badge may not enter the floor");
        }
        if (hasRider(shown) || alarmFloor != NO_FLOOR || riders.size() >= MOST_RIDERS) {
            throw new IllegalStateException("no rider can call with this badge now");
        }
        Rider rider = new Rider(riders.size(), shown, from, to);
        riders.add(rider);
        present.add(rider);
        note(rider);
        giveLift(rider);
        return rider.number;
    }

    public char state(int rider) throws IndexOutOfBoundsException {
        return riderNumbered(rider).state;
    }

    public int floorOf(int rider) throws IndexOutOfBoundsException {
        Rider asked = riderNumbered(rider);
        if (asked.state == ABOARD && asked.lift != null) {
            return asked.lift.floor;
        }
        return asked.floor;
    }

    public int aim(int rider) throws IndexOutOfBoundsException {
        return riderNumbered(rider).aim;
    }

    public int liftOf(int rider) throws IndexOutOfBoundsException, NoSuchElementException {
        Rider asked = riderNumbered(rider);
        if (asked.lift == null) {
            throw new NoSuchElementException("the rider has no lift");
        }
        return asked.lift.number;
    }

    public int waited(int rider) throws IndexOutOfBoundsException {
        return riderNumbered(rider).waited;
    }

    public int waitedByLog(int rider) throws IndexOutOfBoundsException {
        return ticksByLog(riderNumbered(rider));
    }

    public int entries() {
        return log.size();
    }

    // ---- lifts

    public int callOff(int lift) throws IndexOutOfBoundsException, IllegalStateException {
        Lift chosen = liftNumbered(lift);
        if (chosen.service != IN_SERVICE || alarmFloor != NO_FLOOR) {
            throw new IllegalStateException("the lift can't be called off now");
        }
        chosen.service = CALLED_OFF;
        return loseLift(chosen);
    }

    public char service(int lift) throws IndexOutOfBoundsException {
        return liftNumbered(lift).service;
    }

    public int floorOfLift(int lift) throws IndexOutOfBoundsException {
        return liftNumbered(lift).floor;
    }

    public boolean isUp(int lift) throws IndexOutOfBoundsException {
        return liftNumbered(lift).isUp;
    }

    public int aboard(int lift) throws IndexOutOfBoundsException {
        return countAboard(liftNumbered(lift));
    }

    public int score(int lift, int floor) throws IndexOutOfBoundsException {
        Lift asked = liftNumbered(lift);
        checkFloor(floor);
        return scoreOf(asked, floor);
    }

    // ---- ticks and alarms

    public int pass(int ticks) throws IllegalArgumentException {
        if (ticks < 1 || ticks > MOST_TICKS) {
            throw new IllegalArgumentException("the number of ticks is out of range");
        }
        int before = present.size();
        for (int tick = 0; tick < ticks; tick++) {
            passOneTick();
        }
        return before - present.size();
    }

    public int time() {
        return now;
    }

    public int alarm(int floor) throws IndexOutOfBoundsException, IllegalStateException {
        checkFloor(floor);
        if (alarmFloor != NO_FLOOR || present.isEmpty()) {
            throw new IllegalStateException("no alarm can begin now");
        }
        alarmFloor = floor;
        sendAllToLobby();
        return present.size();
    }

    public boolean isAlarm() {
        return alarmFloor != NO_FLOOR;
    }

    public int turn() throws NoSuchElementException {
        int floor = floorInTurn();
        if (floor == NO_FLOOR) {
            throw new NoSuchElementException("no floor has its turn");
        }
        return floor;
    }

    // ---- figures

    public int opened() {
        return openings;
    }

    public int refused() {
        return refusals;
    }

    public float doneShare() throws ArithmeticException {
        if (riders.isEmpty()) {
            throw new ArithmeticException("nobody called");
        }
        int done = riders.size() - present.size();
        return (float) done / (float) riders.size();
    }

    public double meanWait() throws ArithmeticException {
        if (riders.isEmpty()) {
            throw new ArithmeticException("nobody called");
        }
        int sum = 0;
        for (int i = 0; i < riders.size(); i++) {
            sum += riders.get(i).waited;
        }
        return (double) sum / (double) riders.size();
    }

    // What the calls share: looking things up.

    private Badge badgeNumbered(int number) {
        if (number < 0 || number >= badges.size()) {
            throw new IndexOutOfBoundsException("there is no such badge");
        }
        return badges.get(number);
    }

    private Rider riderNumbered(int number) {
        if (number < 0 || number >= riders.size()) {
            throw new IndexOutOfBoundsException("there is no such rider");
        }
        return riders.get(number);
    }

    private Lift liftNumbered(int number) {
        if (number < 0 || number >= lifts.size()) {
            throw new IndexOutOfBoundsException("there is no such lift");
        }
        return lifts.get(number);
    }

    private static void checkFloor(int floor) {
        if (floor < LOBBY || floor >= FLOORS) {
            throw new IndexOutOfBoundsException("the floor is out of range");
        }
    }

    private char whyNot(Badge badge, int floor) {
        if (floor <= LOBBY || floor >= FLOORS) {
            return MAY_ENTER;
        }
        if (badge.isRevoked) {
            return REVOKED;
        }
        if (tenants[floor] != NO_TENANT) {
            return tenants[floor] == badge.tenant ? MAY_ENTER : OTHER_TENANT;
        }
        int timeOfDay = now % DAY;
        return firstTimes[floor] <= timeOfDay && timeOfDay < endTimes[floor] ? MAY_ENTER : OUT_OF_HOURS;
    }

    private boolean hasRider(Badge badge) {
        for (int i = 0; i < present.size(); i++) {
            if (present.get(i).badge == badge) {
                return true;
            }
        }
        return false;
    }

    private int countAboard(Lift lift) {
        int count = 0;
        for (int i = 0; i < present.size(); i++) {
            if (present.get(i).isIn(lift)) {
                count++;
            }
        }
        return count;
    }

    private boolean hasRoom(Lift lift) {
        return lift.service == IN_SERVICE && countAboard(lift) < lift.capacity;
    }

    // The log, and what becomes of a rider.

    private void note(Rider rider) {
        log.add(new Entry(rider.number, rider.state, now));
    }

    /** A rider has waited from the entry of the call to the one behind it, or until now. */
    private int ticksByLog(Rider rider) {
        int calledAt = now;
        for (int i = 0; i < log.size(); i++) {
            Entry entry = log.get(i);
            if (entry.rider == rider.number) {
                if (entry.state != WAITS) {
                    return entry.time - calledAt;
                }
                calledAt = entry.time;
            }
        }
        return now - calledAt;
    }

    private void goAboard(Rider rider) {
        rider.state = ABOARD;
        note(rider);
    }

    /** The caller takes the rider out of those present. */
    private void finish(Rider rider, int floor) {
        rider.state = DONE;
        rider.floor = floor;
        rider.lift = null;
        note(rider);
    }

    // Which lift a rider gets.

    private int scoreOf(Lift lift, int floor) {
        int score = Math.abs(lift.floor - floor);
        for (int i = 0; i < present.size(); i++) {
            if (present.get(i).lift == lift) {
                score += SCORE_OF_A_RIDER;
            }
        }
        return score;
    }

    private void giveLift(Rider rider) {
        Lift best = null;
        int least = 0;
        for (int i = 0; i < lifts.size(); i++) {
            Lift lift = lifts.get(i);
            if (lift.service == IN_SERVICE) {
                int score = scoreOf(lift, rider.floor);
                if (best == null || score < least) {
                    best = lift;
                    least = score;
                }
            }
        }
        rider.lift = best;
    }

    private void giveLiftsToAll() {
        for (int i = 0; i < present.size(); i++) {
            Rider rider = present.get(i);
            if (rider.state == WAITS && rider.lift == null) {
                giveLift(rider);
            }
        }
    }

    private void giveLiftsInTurn() {
        int floor = floorInTurn();
        for (int i = 0; i < lifts.size(); i++) {
            loseLift(lifts.get(i));
        }
        for (int i = 0; i < present.size(); i++) {
            Rider rider = present.get(i);
            if (rider.state == WAITS && rider.floor == floor) {
                giveLift(rider);
            }
        }
    }

    /** Takes the lift from those who wait for it, and counts them. */
    private int loseLift(Lift lift) {
        int count = 0;
        for (int i = 0; i < present.size(); i++) {
            Rider rider = present.get(i);
            if (rider.waitsFor(lift)) {
                rider.lift = null;
                count++;
            }
        }
        return count;
    }

    // Ticks.

    private void passOneTick() {
        if (alarmFloor != NO_FLOOR) {
            giveLiftsInTurn();
        } else {
            giveLiftsToAll();
        }
        for (int i = 0; i < lifts.size(); i++) {
            runLift(lifts.get(i));
        }
        countWaiting();
        now++;
        if (present.isEmpty()) {
            alarmFloor = NO_FLOOR;
        }
    }

    private void countWaiting() {
        for (int i = 0; i < present.size(); i++) {
            Rider rider = present.get(i);
            if (rider.state == WAITS) {
                rider.waited++;
            }
        }
    }

    private void runLift(Lift lift) {
        if (lift.service == BEING_CLEANED) {
            lift.cleanForOneTick();
            return;
        }
        boolean anybodyLeft = letOut(lift);
        boolean anybodyCame = letIn(lift);
        if (anybodyLeft || anybodyCame) {
            openings++;
        } else {
            move(lift);
        }
    }

    private boolean letOut(Lift lift) {
        int before = present.size();
        // From the last one on, since one who is taken out shifts those behind.
        for (int i = before - 1; i >= 0; i--) {
            Rider rider = present.get(i);
            if (rider.isIn(lift) && rider.aim == lift.floor) {
                if (whyNot(rider.badge, lift.floor) == MAY_ENTER) {
                    present.remove(i);
                    finish(rider, lift.floor);
                } else {
                    rider.aim = LOBBY;
                    refusals++;
                }
            }
        }
        return present.size() < before;
    }

    private boolean letIn(Lift lift) {
        boolean anybody = false;
        for (int i = 0; i < present.size(); i++) {
            Rider rider = present.get(i);
            if (rider.waitsFor(lift) && rider.floor == lift.floor && hasRoom(lift)) {
                goAboard(rider);
                anybody = true;
            }
        }
        return anybody;
    }

    private void move(Lift lift) {
        int step = lift.isUp ? 1 : -1;
        boolean takesMore = hasRoom(lift);
        if (hasAimTowards(lift, step, takesMore)) {
            lift.floor += step;
        } else if (hasAimTowards(lift, -step, takesMore)) {
            lift.isUp = !lift.isUp;
            lift.floor -= step;
        } else if (lift.service == CALLED_OFF) {
            lift.service = BEING_CLEANED;
            lift.cleaningLeft = CLEANING_TICKS;
        }
    }

    private boolean hasAimTowards(Lift lift, int step, boolean takesMore) {
        for (int i = 0; i < present.size(); i++) {
            Rider rider = present.get(i);
            if (rider.isIn(lift) && (rider.aim - lift.floor) * step > 0) {
                return true;
            }
            if (takesMore && rider.waitsFor(lift) && (rider.floor - lift.floor) * step > 0) {
                return true;
            }
        }
        return false;
    }

    // Alarms.

    private void sendAllToLobby() {
        // From the last one on, since one who is taken out shifts those behind.
        for (int i = present.size() - 1; i >= 0; i--) {
            Rider rider = present.get(i);
            rider.aim = LOBBY;
            if (rider.state == WAITS) {
                rider.lift = null;
                if (rider.floor == LOBBY) {
                    present.remove(i);
                    finish(rider, LOBBY);
                }
            }
        }
    }

    private int floorInTurn() {
        if (alarmFloor == NO_FLOOR) {
            return NO_FLOOR;
        }
        for (int distance = 0; distance < FLOORS; distance++) {
            if (isWaitedOn(alarmFloor + distance)) {
                return alarmFloor + distance;
            }
            if (isWaitedOn(alarmFloor - distance)) {
                return alarmFloor - distance;
            }
        }
        return NO_FLOOR;
    }

    private boolean isWaitedOn(int floor) {
        for (int i = 0; i < present.size(); i++) {
            Rider rider = present.get(i);
            if (rider.state == WAITS && rider.floor == floor) {
                return true;
            }
        }
        return false;
    }

    private static final class Badge {
        private final int tenant;
        private boolean isRevoked = false;

        private Badge(int tenant) {
            this.tenant = tenant;
        }
    }

    private static final class Lift {
        private final int number;
        private final int capacity;
        private int floor = LOBBY;
        private boolean isUp = true;
        private char service = IN_SERVICE;
        private int cleaningLeft = 0;

        private Lift(int number, int capacity) {
            this.number = number;
            this.capacity = capacity;
        }

        private void cleanForOneTick() {
            cleaningLeft--;
            if (cleaningLeft <= 0) {
                service = IN_SERVICE;
            }
        }
    }

    private static final class Rider {
        private final int number;
        private final Badge badge;
        /** Where the rider waits, or was done; aboard it is the lift that tells the floor. */
        private int floor;
        private int aim;
        private char state = WAITS;
        /** The lift that the rider has or is in, or null. */
        private Lift lift = null;
        private int waited = 0;

        private Rider(int number, Badge badge, int floor, int aim) {
            this.number = number;
            this.badge = badge;
            this.floor = floor;
            this.aim = aim;
        }

        private boolean isIn(Lift asked) {
            return state == ABOARD && lift == asked;
        }

        private boolean waitsFor(Lift asked) {
            return state == WAITS && lift == asked;
        }
    }

    /** What the log keeps: the state in which a call, a going aboard or a leaving put a rider, and when. */
    private static final class Entry {
        private final int rider;
        private final char state;
        private final int time;

        private Entry(int rider, char state, int time) {
            this.rider = rider;
            this.state = state;
            this.time = time;
        }
    }
}
