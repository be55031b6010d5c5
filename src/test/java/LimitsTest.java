import java.util.Arrays;
import java.util.function.IntFunction;

/**
 * For each argument of each call the last value that is allowed and the first that is not, on both sides; and each
 * thing that the document counts, when there are none of it, some, and as many as there may be.
 */
public final class LimitsTest {
    public static void main(String[] args) {
        capacity();
        tenants();
        hours();
        hoursCount();
        badges();
        floorsOfReason();
        floorsOfCall();
        riders();
        lifts();
        floorsOfScore();
        ticks();
        floorsOfAlarm();
        mostLifts();
        mostBadges();
        mostRiders();
        mostRidersAtATime();
        Check.end();
    }

    /** The call answers for every number from the least to the most, and throws for those beside and far off. */
    private static void range(String call, int least, int most, Class<? extends RuntimeException> thrown,
            IntFunction<Object> answer) {
        for (int x = least; x <= most; x++) {
            int allowed = x;
            Check.answers(call + " of " + x, () -> answer.apply(allowed));
        }
        for (int x : new int[] {least - 1, most + 1, Integer.MIN_VALUE, Integer.MAX_VALUE}) {
            Check.throwsIt(call + " of " + x, thrown, () -> answer.apply(x));
        }
    }

    private static void capacity() {
        range("2: addLift", 1, 4, Check.ARGUMENT, capacity -> new LiftDesk().addLift(capacity));
        for (int capacity = 1; capacity <= 4; capacity++) {
            LiftDesk fits = Desks.of(capacity);
            for (int badge = 0; badge < capacity; badge++) {
                fits.call(badge, 0, 9);
            }
            fits.pass(1);
            Check.due("2: as many as the capacity go aboard", fits.aboard(0), capacity);
            LiftDesk over = Desks.of(capacity);
            for (int badge = 0; badge <= capacity; badge++) {
                over.call(badge, 0, 9);
            }
            over.pass(1);
            Check.due("2: one more than the capacity does not", over.aboard(0), capacity);
            Check.due("2: the one too many waits", over.state(capacity), 'w');
            Check.due("2: the last one in is aboard", over.state(capacity - 1), 'a');
        }
    }

    private static void tenants() {
        range("3: setTenant, floor", 1, 9, Check.INDEX, floor -> new LiftDesk().setTenant(floor, 3));
        range("3: setTenant, tenant", -1, 3, Check.ARGUMENT, tenant -> new LiftDesk().setTenant(9, tenant));
        range("5: addBadge", 0, 3, Check.ARGUMENT, tenant -> new LiftDesk().addBadge(tenant));
    }

    private static void hours() {
        range("4: setHours, floor", 1, 9, Check.INDEX, floor -> new LiftDesk().setHours(floor, 0, 100));
        range("4: setHours, first, up to 100", 0, 99, Check.ARGUMENT,
            first -> new LiftDesk().setHours(1, first, 100));
        range("4: setHours, first, up to 50", 0, 49, Check.ARGUMENT, first -> new LiftDesk().setHours(1, first, 50));
        range("4: setHours, end, from 0", 1, 100, Check.ARGUMENT, end -> new LiftDesk().setHours(9, 0, end));
        range("4: setHours, end, from 50", 51, 100, Check.ARGUMENT, end -> new LiftDesk().setHours(9, 50, end));
        range("4: setHours, end, from 99", 100, 100, Check.ARGUMENT, end -> new LiftDesk().setHours(9, 99, end));
        for (int end : new int[] {99, 100, 101}) {
            Check.throwsIt("4: setHours from 100 to " + end, Check.ARGUMENT,
                () -> new LiftDesk().setHours(9, 100, end));
        }
        for (int end : new int[] {-2, -1, 0, 1, 100}) {
            Check.throwsIt("4: setHours from -1 to " + end, Check.ARGUMENT,
                () -> new LiftDesk().setHours(9, -1, end));
        }
    }

    private static void hoursCount() {
        int[][] rows = {{0, 100, 100}, {0, 1, 1}, {99, 100, 1}, {0, 99, 99}, {1, 100, 99}, {49, 51, 2}};
        for (int[] row : rows) {
            LiftDesk desk = new LiftDesk();
            Check.due("4: setHours from " + row[0] + " to " + row[1], desk.setHours(5, row[0], row[1]), row[2]);
        }
    }

    private static void badges() {
        for (int count : new int[] {0, 1, 7, 8}) {
            LiftDesk desk = new LiftDesk();
            for (int badge = 0; badge < count; badge++) {
                desk.addBadge(3);
            }
            String among = ", badge among " + count;
            range("6: setRevoked" + among, 0, count - 1, Check.INDEX, badge -> desk.setRevoked(badge, false));
            range("7: reason" + among, 0, count - 1, Check.INDEX, badge -> desk.reason(badge, 9));
            range("8: call" + among, 0, count - 1, Check.INDEX, badge -> desk.call(badge, 9, 0));
        }
    }

    private static void floorsOfReason() {
        LiftDesk desk = Desks.of();
        range("7: reason, floor", 0, 9, Check.INDEX, floor -> desk.reason(7, floor));
    }

    private static void floorsOfCall() {
        int[] floors = {Integer.MIN_VALUE, -1, 0, 1, 2, 3, 4, 5, 6, 7, 8, 9, 10, Integer.MAX_VALUE};
        for (int from : floors) {
            for (int to : floors) {
                String call = "8: call from " + from + " to " + to;
                LiftDesk desk = Desks.of(1);
                if (from < 0 || from > 9 || to < 0 || to > 9) {
                    Check.throwsIt(call, Check.INDEX, () -> desk.call(0, from, to));
                } else if (from == to) {
                    Check.throwsIt(call, Check.ARGUMENT, () -> desk.call(0, from, to));
                } else {
                    Check.due(call, desk.call(0, from, to), 0);
                    Check.due(call + ", floorOf", desk.floorOf(0), from);
                    Check.due(call + ", aim", desk.aim(0), to);
                    Check.due(call + ", done", desk.pass(22), 1);
                    Check.due(call + ", floorOf when done", desk.floorOf(0), to);
                }
            }
        }
    }

    private static void riders() {
        for (int count : new int[] {0, 1, 29, 30}) {
            LiftDesk desk = Desks.behindRiders(count, 1);
            String among = ", rider among " + count;
            int last = count - 1;
            range("9: state" + among, 0, last, Check.INDEX, desk::state);
            range("10: floorOf" + among, 0, last, Check.INDEX, desk::floorOf);
            range("11: aim" + among, 0, last, Check.INDEX, desk::aim);
            range("13: waited" + among, 0, last, Check.INDEX, desk::waited);
            range("14: waitedByLog" + among, 0, last, Check.INDEX, desk::waitedByLog);
            for (int rider : new int[] {-1, count, Integer.MIN_VALUE, Integer.MAX_VALUE}) {
                Check.throwsIt("12: liftOf" + among + ", of " + rider, Check.INDEX, () -> desk.liftOf(rider));
            }
            for (int rider : new int[] {0, last}) {
                if (rider >= 0 && rider < count) {
                    Check.throwsIt("12: liftOf" + among + ", of " + rider, Check.NO_ELEMENT, () -> desk.liftOf(rider));
                }
            }
        }
        LiftDesk waiting = Desks.behindRiders(29, 1);
        waiting.call(5, 9, 0);
        Check.due("12: liftOf the last rider that there may be", waiting.liftOf(29), 0);
    }

    private static void lifts() {
        int[] all = {1, 4, 2};
        for (int count = 0; count <= 3; count++) {
            LiftDesk desk = Desks.of(Arrays.copyOf(all, count));
            String among = ", lift among " + count;
            int last = count - 1;
            range("17: service" + among, 0, last, Check.INDEX, desk::service);
            range("18: floorOfLift" + among, 0, last, Check.INDEX, desk::floorOfLift);
            range("19: isUp" + among, 0, last, Check.INDEX, desk::isUp);
            range("20: aboard" + among, 0, last, Check.INDEX, desk::aboard);
            range("21: score" + among, 0, last, Check.INDEX, lift -> desk.score(lift, 9));
            range("16: callOff" + among, 0, last, Check.INDEX, desk::callOff);
        }
    }

    private static void floorsOfScore() {
        LiftDesk desk = Desks.of(1, 1, 1);
        range("21: score, floor", 0, 9, Check.INDEX, floor -> desk.score(2, floor));
        for (int floor = 0; floor <= 9; floor++) {
            Check.due("21: score from the lobby for " + floor, desk.score(2, floor), floor);
        }
    }

    private static void ticks() {
        LiftDesk desk = Desks.of(1);
        range("22: pass", 1, 100, Check.ARGUMENT, desk::pass);
        Check.due("23: time behind 1 to 100 ticks, each once", desk.time(), 5050);
    }

    private static void floorsOfAlarm() {
        range("24: alarm", 0, 9, Check.INDEX, floor -> {
            LiftDesk desk = Desks.of(1);
            desk.call(0, 5, 1);
            return desk.alarm(floor);
        });
    }

    private static void mostLifts() {
        LiftDesk desk = Desks.of();
        for (int lift = 0; lift < 3; lift++) {
            Check.due("2: the number of a lift", desk.addLift(4), lift);
        }
        Check.throwsIt("2: a fourth lift", Check.STATE, () -> desk.addLift(4));
        desk.callOff(1);
        desk.pass(1);
        Check.throwsIt("2: a fourth lift while one is being cleaned", Check.STATE, () -> desk.addLift(1));
        Check.throwsIt("2: the fourth lift is not there", Check.INDEX, () -> desk.floorOfLift(3));
        for (int badge = 0; badge < 3; badge++) {
            desk.call(badge, 0, 9);
        }
        desk.pass(30);
        Check.due("2: the third lift carries riders", desk.floorOfLift(2), 9);
    }

    private static void mostBadges() {
        LiftDesk desk = new LiftDesk();
        for (int badge = 0; badge < 8; badge++) {
            Check.due("5: the number of a badge", desk.addBadge(2), badge);
        }
        Check.throwsIt("5: a ninth badge", Check.STATE, () -> desk.addBadge(2));
        desk.setRevoked(7, true);
        Check.throwsIt("5: a ninth badge, though one is revoked", Check.STATE, () -> desk.addBadge(2));
        Check.throwsIt("5: the ninth badge can't be revoked", Check.INDEX, () -> desk.setRevoked(8, true));
        Check.throwsIt("5: the ninth badge can't call", Check.INDEX, () -> desk.call(8, 9, 0));
        Check.due("5: the eighth badge can", desk.call(7, 9, 0), 0);
    }

    private static void mostRiders() {
        LiftDesk desk = Desks.behindRiders(29, 4);
        Check.due("8: the thirtieth rider", desk.call(7, 0, 9), 29);
        Check.throwsIt("8: a rider too many", Check.STATE, () -> desk.call(0, 1, 0));
        desk.pass(11);
        Check.due("8: the thirtieth rider is done", desk.state(29), 'd');
        Check.throwsIt("8: a rider too many, though all are done", Check.STATE, () -> desk.call(0, 1, 0));
        Check.throwsIt("8: the rider too many is not there", Check.INDEX, () -> desk.state(30));
        Check.due("15: three entries of each of them", desk.entries(), 90);
        Check.due("29: all of thirty", desk.doneShare(), 1.0f);
        LiftDesk last = Desks.behindRiders(29, 4);
        last.call(7, 0, 9);
        Check.due("29: all but one of thirty", last.doneShare(), 29.0f / 30.0f);
    }

    /** A badge has one rider at a time, so with eight badges eight are there at the most. */
    private static void mostRidersAtATime() {
        LiftDesk desk = Desks.of(4, 4);
        for (int badge = 0; badge < 8; badge++) {
            Check.due("8: the rider of a badge", desk.call(badge, 0, 1), badge);
        }
        for (int badge = 0; badge < 8; badge++) {
            int again = badge;
            Check.throwsIt("8: a second rider who waits", Check.STATE, () -> desk.call(again, 0, 1));
        }
        Check.due("29: none of eight", desk.doneShare(), 0.0f);
        desk.pass(2);
        for (int badge = 0; badge < 8; badge++) {
            int again = badge;
            Check.due("8: all are aboard", desk.state(badge), 'a');
            Check.throwsIt("8: a second rider while one is aboard", Check.STATE, () -> desk.call(again, 0, 1));
        }
        Check.due("22: all are done in one tick", desk.pass(1), 8);
        for (int badge = 0; badge < 8; badge++) {
            Check.due("8: the next rider of a badge", desk.call(badge, 0, 1), 8 + badge);
        }
        Check.due("29: eight of sixteen", desk.doneShare(), 0.5f);
        Check.due("24: as many as there may be, and all in the lobby", desk.alarm(0), 0);
        Check.due("15: entries", desk.entries(), 40);
    }
}
