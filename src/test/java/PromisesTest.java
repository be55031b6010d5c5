/** Each promise by itself: ordinary inputs, the edges that the document names, and wrong inputs. */
public final class PromisesTest {
    private static final int[] FAR_OUT = {Integer.MIN_VALUE, -1, 30, 1000, Integer.MAX_VALUE};

    public static void main(String[] args) {
        aNewObject();
        addLift();
        setTenant();
        setHours();
        addBadge();
        setRevoked();
        reason();
        callNumbers();
        callExceptions();
        callExceptionsInOrder();
        callGivesALift();
        state();
        floorOf();
        aim();
        liftOf();
        waited();
        entries();
        callOff();
        service();
        floorOfLiftAndIsUp();
        aboard();
        score();
        pass();
        time();
        alarm();
        isAlarm();
        turn();
        opened();
        refused();
        doneShare();
        meanWait();
        Check.end();
    }

    private static void due(String what, Object got, Object want) {
        Check.due(what, got, want);
    }

    private static void aNewObject() {
        LiftDesk desk = new LiftDesk();
        due("1: time", desk.time(), 0);
        due("1: entries", desk.entries(), 0);
        due("1: opened", desk.opened(), 0);
        due("1: refused", desk.refused(), 0);
        due("1: isAlarm", desk.isAlarm(), false);
        Check.throwsIt("1: a lift", Check.INDEX, () -> desk.service(0));
        Check.throwsIt("1: a badge", Check.INDEX, () -> desk.setRevoked(0, true));
        Check.throwsIt("1: a rider", Check.INDEX, () -> desk.state(0));
        LiftDesk other = Desks.of(1);
        due("1: a second object has its own lifts", Check.answerOrThrown(() -> desk.service(0)),
                "throws.IndexOutOfBoundsException");
        due("1: time of the second", other.time(), 0);
    }

    private static void addLift() {
        LiftDesk desk = new LiftDesk();
        for (int capacity : new int[] {Integer.MIN_VALUE, -1, 0, 5, 6, Integer.MAX_VALUE}) {
            Check.throwsIt("2: addLift(" + capacity + ")", Check.ARGUMENT, () -> desk.addLift(capacity));
        }
        due("2: addLift(1)", desk.addLift(1), 0);
        due("2: addLift(4)", desk.addLift(4), 1);
        due("2: addLift(2)", desk.addLift(2), 2);
        Check.throwsIt("2: a fourth lift", Check.STATE, () -> desk.addLift(1));
        Check.throwsIt("2: a fourth lift of no capacity", Check.ARGUMENT, () -> desk.addLift(0));
        Check.throwsIt("2: the fourth lift is not there", Check.INDEX, () -> desk.service(3));
        for (int lift = 0; lift < 3; lift++) {
            due("2: a new lift's floor", desk.floorOfLift(lift), 0);
            due("2: a new lift's direction", desk.isUp(lift), true);
            due("2: a new lift's service", desk.service(lift), 's');
            due("2: a new lift's riders", desk.aboard(lift), 0);
        }
        for (int capacity = 1; capacity <= 4; capacity++) {
            LiftDesk full = Desks.of(capacity);
            for (int badge = 0; badge < 8; badge++) {
                full.call(badge, 0, 9);
            }
            full.pass(1);
            due("2: riders aboard of a lift with room for " + capacity, full.aboard(0), capacity);
        }
    }

    private static void setTenant() {
        LiftDesk desk = new LiftDesk();
        for (int floor : new int[] {Integer.MIN_VALUE, -1, 0, 10, 11, Integer.MAX_VALUE}) {
            Check.throwsIt("3: setTenant(" + floor + ", 0)", Check.INDEX, () -> desk.setTenant(floor, 0));
        }
        for (int tenant : new int[] {Integer.MIN_VALUE, -2, 4, 5, Integer.MAX_VALUE}) {
            Check.throwsIt("3: setTenant(1, " + tenant + ")", Check.ARGUMENT, () -> desk.setTenant(1, tenant));
        }
        Check.throwsIt("3: both wrong", Check.INDEX, () -> desk.setTenant(0, 4));
        for (int floor = 1; floor <= 9; floor++) {
            due("3: at first none", desk.setTenant(floor, floor % 4), -1);
        }
        for (int floor = 1; floor <= 9; floor++) {
            due("3: the tenant before", desk.setTenant(floor, -1), floor % 4);
            due("3: none before", desk.setTenant(floor, -1), -1);
        }
    }

    private static void setHours() {
        LiftDesk desk = Desks.of();
        for (int floor : new int[] {Integer.MIN_VALUE, -1, 0, 10, Integer.MAX_VALUE}) {
            Check.throwsIt("4: setHours(" + floor + ", 0, 1)", Check.INDEX, () -> desk.setHours(floor, 0, 1));
        }
        int[][] wrong = {{-1, 5}, {100, 101}, {5, 5}, {5, 4}, {0, 101}, {0, 0}, {99, 99}, {100, 100}, {50, -1},
            {Integer.MIN_VALUE, 3}, {3, Integer.MAX_VALUE}, {Integer.MAX_VALUE, Integer.MIN_VALUE}};
        for (int[] hours : wrong) {
            Check.throwsIt("4: setHours(5, " + hours[0] + ", " + hours[1] + ")", Check.ARGUMENT,
                () -> desk.setHours(5, hours[0], hours[1]));
            due("4: the hours are as before", desk.reason(0, 5), 'n');
        }
        Check.throwsIt("4: both wrong", Check.INDEX, () -> desk.setHours(10, 5, 5));
        due("4: setHours(1, 0, 100)", desk.setHours(1, 0, 100), 100);
        due("4: setHours(9, 99, 100)", desk.setHours(9, 99, 100), 1);
        due("4: setHours(2, 0, 1)", desk.setHours(2, 0, 1), 1);
        due("4: setHours(2, 3, 7)", desk.setHours(2, 3, 7), 4);
    }

    private static void addBadge() {
        LiftDesk desk = new LiftDesk();
        for (int tenant : new int[] {Integer.MIN_VALUE, -1, 4, Integer.MAX_VALUE}) {
            Check.throwsIt("5: addBadge(" + tenant + ")", Check.ARGUMENT, () -> desk.addBadge(tenant));
        }
        for (int i = 0; i < 8; i++) {
            due("5: the number of a badge", desk.addBadge(i % 4), i);
            due("5: it is not revoked", desk.setRevoked(i, false), false);
        }
        Check.throwsIt("5: a ninth badge", Check.STATE, () -> desk.addBadge(0));
        Check.throwsIt("5: a ninth badge of no tenant", Check.ARGUMENT, () -> desk.addBadge(4));
        Check.throwsIt("5: the ninth badge is not there", Check.INDEX, () -> desk.reason(8, 0));
        for (int tenant = 0; tenant < 4; tenant++) {
            desk.setTenant(3, tenant);
            for (int badge = 0; badge < 8; badge++) {
                due("5: the badge's tenant", desk.reason(badge, 3), badge % 4 == tenant ? 'n' : 't');
            }
        }
    }

    private static void setRevoked() {
        LiftDesk desk = new LiftDesk();
        desk.addBadge(0);
        desk.addBadge(0);
        for (int badge : new int[] {Integer.MIN_VALUE, -1, 2, Integer.MAX_VALUE}) {
            Check.throwsIt("6: setRevoked(" + badge + ")", Check.INDEX, () -> desk.setRevoked(badge, true));
        }
        due("6: valid at first", desk.setRevoked(0, true), false);
        due("6: revoked already", desk.setRevoked(0, true), true);
        due("6: the other one is not", desk.reason(1, 1), 'n');
        due("6: revoked", desk.reason(0, 1), 'r');
        due("6: valid again", desk.setRevoked(0, false), true);
        due("6: and so it stays", desk.setRevoked(0, false), false);
        due("6: may enter again", desk.reason(0, 1), 'n');
    }

    private static void reason() {
        LiftDesk desk = Desks.of();
        for (int badge : new int[] {Integer.MIN_VALUE, -1, 8, Integer.MAX_VALUE}) {
            Check.throwsIt("7: reason(" + badge + ", 1)", Check.INDEX, () -> desk.reason(badge, 1));
        }
        for (int floor : new int[] {Integer.MIN_VALUE, -1, 10, Integer.MAX_VALUE}) {
            Check.throwsIt("7: reason(0, " + floor + ")", Check.INDEX, () -> desk.reason(0, floor));
        }
        desk.setTenant(1, 2);
        desk.setHours(1, 50, 60);
        desk.setHours(2, 50, 60);
        due("7: the tenant's own, out of its hours", desk.reason(2, 1), 'n');
        due("7: of another tenant", desk.reason(3, 1), 't');
        due("7: out of hours", desk.reason(2, 2), 'h');
        due("7: the lobby", desk.reason(2, 0), 'n');
        due("7: at first at any time", desk.reason(2, 9), 'n');
        desk.setRevoked(2, true);
        desk.setRevoked(3, true);
        due("7: revoked before another tenant", desk.reason(3, 1), 'r');
        due("7: revoked before hours", desk.reason(2, 2), 'r');
        due("7: revoked on the tenant's own", desk.reason(2, 1), 'r');
        due("7: the lobby, though revoked", desk.reason(2, 0), 'n');
        hoursGoByTheTimeOfTheDay(desk);
    }

    private static void hoursGoByTheTimeOfTheDay(LiftDesk desk) {
        for (int tick = 0; tick < 220; tick++) {
            boolean isOpen = tick % 100 >= 50 && tick % 100 < 60;
            due("7: hours at " + tick, desk.reason(0, 2), isOpen ? 'n' : 'h');
            desk.pass(1);
        }
        desk.setTenant(2, 0);
        due("7: a tenant's floor has no hours", desk.reason(0, 2), 'n');
        desk.setTenant(2, -1);
        due("7: without a tenant the hours count again", desk.reason(0, 2), 'h');
    }

    private static void callNumbers() {
        LiftDesk desk = Desks.of(4);
        for (int rider = 0; rider < 30; rider++) {
            due("8: the number of a rider", desk.call(rider % 8, 1, 0), rider);
            desk.pass(5);
        }
        due("8: all are done", desk.doneShare(), 1.0f);
        Check.throwsIt("8: a rider too many", Check.STATE, () -> desk.call(0, 1, 0));
        due("8: and nothing was noted", desk.entries(), 90);
        Check.throwsIt("8: the rider too many is not there", Check.INDEX, () -> desk.state(30));
    }

    private static void callExceptions() {
        LiftDesk desk = Desks.of(1);
        for (int badge : new int[] {Integer.MIN_VALUE, -1, 8, Integer.MAX_VALUE}) {
            Check.throwsIt("8: call(" + badge + ", 0, 1)", Check.INDEX, () -> desk.call(badge, 0, 1));
        }
        for (int floor : new int[] {Integer.MIN_VALUE, -1, 10, Integer.MAX_VALUE}) {
            Check.throwsIt("8: call(0, " + floor + ", 1)", Check.INDEX, () -> desk.call(0, floor, 1));
            Check.throwsIt("8: call(0, 1, " + floor + ")", Check.INDEX, () -> desk.call(0, 1, floor));
        }
        Check.throwsIt("8: the same floor", Check.ARGUMENT, () -> desk.call(0, 4, 4));
        Check.throwsIt("8: the lobby twice", Check.ARGUMENT, () -> desk.call(0, 0, 0));
        desk.setTenant(5, 1);
        Check.throwsIt("8: of another tenant", Check.UNSUPPORTED, () -> desk.call(0, 0, 5));
        desk.setHours(6, 10, 20);
        Check.throwsIt("8: out of hours", Check.UNSUPPORTED, () -> desk.call(0, 0, 6));
        desk.setRevoked(0, true);
        Check.throwsIt("8: revoked", Check.UNSUPPORTED, () -> desk.call(0, 0, 1));
        due("8: a revoked badge may go to the lobby, from anywhere", desk.call(0, 5, 0), 0);
        Check.throwsIt("8: the badge has a rider", Check.STATE, () -> desk.call(0, 5, 0));
        due("8: entries", desk.entries(), 1);
        desk.pass(7);
        Check.throwsIt("8: the badge has a rider aboard", Check.STATE, () -> desk.call(0, 5, 0));
        due("8: the rider is done", desk.pass(10), 1);
        due("8: the badge can call again", desk.call(0, 5, 0), 1);
        desk.alarm(5);
        Check.throwsIt("8: an alarm", Check.STATE, () -> desk.call(1, 0, 1));
    }

    private static void callExceptionsInOrder() {
        LiftDesk desk = Desks.of(1);
        desk.setTenant(5, 1);
        desk.call(0, 1, 0);
        Check.throwsIt("8: no badge and the same floor", Check.INDEX, () -> desk.call(8, 3, 3));
        Check.throwsIt("8: no floor twice", Check.INDEX, () -> desk.call(0, 10, 10));
        Check.throwsIt("8: the same floor, no entry", Check.ARGUMENT, () -> desk.call(0, 5, 5));
        Check.throwsIt("8: no entry, and it has a rider", Check.UNSUPPORTED, () -> desk.call(0, 0, 5));
        desk.alarm(1);
        Check.throwsIt("8: no entry, in an alarm", Check.UNSUPPORTED, () -> desk.call(0, 0, 5));
        Check.throwsIt("8: the same floor, in an alarm", Check.ARGUMENT, () -> desk.call(2, 2, 2));
    }

    private static void callGivesALift() {
        LiftDesk desk = Desks.of();
        desk.call(0, 3, 0);
        Check.throwsIt("8: there is no lift", Check.NO_ELEMENT, () -> desk.liftOf(0));
        desk.addLift(4);
        desk.addLift(4);
        desk.addLift(4);
        Check.throwsIt("8: a new lift is given by a tick alone", Check.NO_ELEMENT, () -> desk.liftOf(0));
        due("8: of equal scores the lowest number", desk.liftOf(desk.call(1, 0, 1)), 0);
        due("8: the least score", desk.liftOf(desk.call(2, 0, 1)), 1);
        due("8: the least score again", desk.liftOf(desk.call(3, 9, 1)), 2);
        due("8: and round again", desk.liftOf(desk.call(4, 9, 1)), 0);
        desk.callOff(1);
        due("8: not one that is called off", desk.liftOf(desk.call(5, 0, 1)), 2);
        desk.pass(1);
        due("8: a tick gave one to the first rider", desk.liftOf(0), 0);
    }

    private static void state() {
        LiftDesk desk = Desks.of(1);
        desk.call(0, 1, 2);
        for (int rider : FAR_OUT) {
            Check.throwsIt("9: state(" + rider + ")", Check.INDEX, () -> desk.state(rider));
        }
        Check.throwsIt("9: the next rider", Check.INDEX, () -> desk.state(1));
        String states = "";
        for (int tick = 0; tick < 5; tick++) {
            states += desk.state(0);
            desk.pass(1);
        }
        due("9: states", states, "wwaad");
        desk.call(1, 0, 1);
        desk.alarm(0);
        due("9: done by the alarm", desk.state(1), 'd');
    }

    private static void floorOf() {
        LiftDesk desk = Desks.of(1);
        desk.call(0, 1, 3);
        for (int rider : FAR_OUT) {
            Check.throwsIt("10: floorOf(" + rider + ")", Check.INDEX, () -> desk.floorOf(rider));
        }
        int[] floors = {1, 1, 1, 2, 3, 3, 3};
        for (int tick = 0; tick < floors.length; tick++) {
            due("10: floorOf at " + tick, desk.floorOf(0), floors[tick]);
            desk.pass(1);
        }
        desk.call(1, 0, 1);
        desk.pass(20);
        due("10: the lift is elsewhere", desk.floorOfLift(0), 1);
        due("10: where the rider was done", desk.floorOf(0), 3);
        desk.call(2, 0, 5);
        desk.alarm(4);
        due("10: done in the lobby by the alarm", desk.floorOf(2), 0);
    }

    private static void aim() {
        LiftDesk desk = Desks.of(1);
        desk.call(0, 1, 3);
        desk.call(1, 2, 4);
        for (int rider : FAR_OUT) {
            Check.throwsIt("11: aim(" + rider + ")", Check.INDEX, () -> desk.aim(rider));
        }
        due("11: waiting", desk.aim(0), 3);
        desk.pass(2);
        due("11: aboard", desk.aim(0), 3);
        desk.setRevoked(0, true);
        desk.pass(2);
        due("11: on the floor, not yet refused", desk.aim(0), 3);
        desk.pass(1);
        due("11: refused", desk.aim(0), 0);
        desk.setRevoked(0, false);
        desk.pass(60);
        due("11: it went to the lobby", desk.aim(0), 0);
        due("11: it went to its floor", desk.aim(1), 4);
        desk.call(1, 2, 4);
        desk.alarm(9);
        due("11: in an alarm", desk.aim(2), 0);
        due("11: an alarm is nothing to one who is done", desk.aim(1), 4);
    }

    private static void liftOf() {
        LiftDesk desk = Desks.of(1, 1);
        desk.call(0, 1, 3);
        desk.call(1, 1, 3);
        for (int rider : FAR_OUT) {
            Check.throwsIt("12: liftOf(" + rider + ")", Check.INDEX, () -> desk.liftOf(rider));
        }
        due("12: waiting", desk.liftOf(1), 1);
        desk.pass(3);
        due("12: aboard", desk.liftOf(1), 1);
        desk.pass(30);
        Check.throwsIt("12: done", Check.NO_ELEMENT, () -> desk.liftOf(1));
        desk.call(0, 1, 3);
        desk.alarm(2);
        Check.throwsIt("12: lost by the alarm", Check.NO_ELEMENT, () -> desk.liftOf(2));
    }

    private static void waited() {
        LiftDesk desk = Desks.of(1);
        desk.pass(5);
        desk.call(0, 2, 0);
        desk.call(1, 2, 0);
        for (int rider : FAR_OUT) {
            Check.throwsIt("13: waited(" + rider + ")", Check.INDEX, () -> desk.waited(rider));
            Check.throwsIt("14: waitedByLog(" + rider + ")", Check.INDEX, () -> desk.waitedByLog(rider));
        }
        // Up in two ticks, aboard in the third, down in two, out in the sixth; the same again for the second rider.
        int[] first = {0, 1, 2, 2, 2, 2, 2, 2, 2, 2, 2, 2, 2};
        int[] second = {0, 1, 2, 3, 4, 5, 6, 7, 8, 8, 8, 8, 8};
        for (int tick = 0; tick < first.length; tick++) {
            due("13: waited(0) at " + tick, desk.waited(0), first[tick]);
            due("13: waited(1) at " + tick, desk.waited(1), second[tick]);
            due("14: waitedByLog(0) at " + tick, desk.waitedByLog(0), first[tick]);
            due("14: waitedByLog(1) at " + tick, desk.waitedByLog(1), second[tick]);
            desk.pass(1);
        }
        LiftDesk closed = Desks.of();
        closed.call(0, 0, 5);
        closed.pass(7);
        closed.alarm(1);
        closed.pass(9);
        due("13: done by the alarm", closed.waited(0), 7);
        due("14: done by the alarm", closed.waitedByLog(0), 7);
    }

    private static void entries() {
        LiftDesk desk = Desks.of(4);
        desk.call(0, 0, 1);
        due("15: called", desk.entries(), 1);
        desk.call(1, 0, 1);
        desk.call(2, 0, 2);
        due("15: three called", desk.entries(), 3);
        desk.pass(1);
        due("15: three went aboard", desk.entries(), 6);
        desk.pass(1);
        due("15: nothing", desk.entries(), 6);
        desk.pass(1);
        due("15: two are done", desk.entries(), 8);
        desk.setRevoked(2, true);
        desk.pass(2);
        due("15: refused, which is no entry", desk.entries(), 8);
        desk.pass(10);
        due("15: done in the lobby", desk.entries(), 9);
        desk.call(0, 0, 1);
        desk.alarm(5);
        due("15: called, and done by the alarm", desk.entries(), 11);
    }

    private static void callOff() {
        LiftDesk desk = Desks.of(2, 2);
        for (int lift : new int[] {Integer.MIN_VALUE, -1, 2, Integer.MAX_VALUE}) {
            Check.throwsIt("16: callOff(" + lift + ")", Check.INDEX, () -> desk.callOff(lift));
        }
        desk.call(0, 0, 9);
        desk.call(1, 0, 9);
        desk.call(2, 0, 9);
        desk.pass(1);
        desk.call(3, 1, 9);
        desk.call(4, 1, 9);
        due("16: the lift of the second", desk.liftOf(1), 1);
        due("16: the lift of the fourth", desk.liftOf(3), 1);
        due("16: the lift of the fifth", desk.liftOf(4), 0);
        due("16: callOff(0)", desk.callOff(0), 1);
        Check.throwsIt("16: the fifth lost it", Check.NO_ELEMENT, () -> desk.liftOf(4));
        due("16: those aboard stay", desk.aboard(0), 2);
        due("16: the fourth keeps the other one", desk.liftOf(3), 1);
        Check.throwsIt("16: it is called off", Check.STATE, () -> desk.callOff(0));
        desk.pass(1);
        due("16: by a tick the fifth has the other one", desk.liftOf(4), 1);
        desk.pass(20);
        due("16: it is being cleaned", desk.service(0), 'c');
        Check.throwsIt("16: not while it is being cleaned", Check.STATE, () -> desk.callOff(0));
        desk.call(5, 0, 9);
        desk.call(6, 5, 9);
        desk.alarm(3);
        Check.throwsIt("16: not in an alarm", Check.STATE, () -> desk.callOff(1));
        Check.throwsIt("16: no such lift, in an alarm", Check.INDEX, () -> desk.callOff(2));
        due("16: nobody waits for it", Desks.of(1).callOff(0), 0);
    }

    private static void service() {
        LiftDesk desk = Desks.of(1);
        for (int lift : new int[] {Integer.MIN_VALUE, -1, 1, Integer.MAX_VALUE}) {
            Check.throwsIt("17: service(" + lift + ")", Check.INDEX, () -> desk.service(lift));
        }
        desk.call(0, 0, 2);
        desk.pass(1);
        desk.callOff(0);
        desk.call(1, 2, 1);
        String services = "";
        for (int tick = 0; tick < 30; tick++) {
            services += desk.service(0);
            desk.pass(1);
        }
        // Two floors up, the rider leaves, the cleaning begins in the fourth tick, and takes twenty more.
        due("17: services", services, "oooo" + "c".repeat(20) + "ssssss");
        due("17: taken in the tick behind the cleaning", desk.waited(1), 24);
        Check.throwsIt("17: in the lobby without aims", Check.INDEX, () -> desk.service(1));
    }

    private static void floorOfLiftAndIsUp() {
        LiftDesk desk = Desks.of(1);
        for (int lift : new int[] {Integer.MIN_VALUE, -1, 1, Integer.MAX_VALUE}) {
            Check.throwsIt("18: floorOfLift(" + lift + ")", Check.INDEX, () -> desk.floorOfLift(lift));
            Check.throwsIt("19: isUp(" + lift + ")", Check.INDEX, () -> desk.isUp(lift));
        }
        desk.call(0, 2, 0);
        desk.call(1, 3, 4);
        String floors = "";
        String directions = "";
        for (int tick = 0; tick < 20; tick++) {
            floors += desk.floorOfLift(0);
            directions += desk.isUp(0) ? "u" : "d";
            desk.pass(1);
        }
        // The lift is full when the first rider is aboard, so the one who waits above is no aim: it turns round.
        due("18: floors", floors, "01221001233444444444");
        due("19: directions", directions, "uuuuddduuuuuuuuuuuuu");
        roomMakesAimsAhead();
    }

    private static void roomMakesAimsAhead() {
        LiftDesk desk = Desks.of(2);
        desk.call(0, 2, 0);
        desk.call(1, 3, 4);
        String floors = "";
        for (int tick = 0; tick < 16; tick++) {
            floors += desk.floorOfLift(0);
            desk.pass(1);
        }
        due("18: with room it goes on", floors, "0122334432100000");
        due("19: and stays as it was turned", desk.isUp(0), false);
        due("18: all are done", desk.doneShare(), 1.0f);
    }

    private static void aboard() {
        LiftDesk desk = Desks.of(2, 2);
        for (int lift : new int[] {Integer.MIN_VALUE, -1, 2, Integer.MAX_VALUE}) {
            Check.throwsIt("20: aboard(" + lift + ")", Check.INDEX, () -> desk.aboard(lift));
        }
        for (int badge = 0; badge < 6; badge++) {
            desk.call(badge, 0, badge + 1);
        }
        due("20: nobody yet", desk.aboard(0), 0);
        desk.pass(1);
        due("20: as long as there is room", desk.aboard(0), 2);
        due("20: the other one", desk.aboard(1), 2);
        due("20: in ascending order", "" + desk.state(0) + desk.state(2) + desk.state(4), "aaw");
        desk.pass(2);
        due("20: one left", desk.aboard(0), 1);
        due("20: one is still aboard", desk.aboard(1), 2);
    }

    private static void score() {
        LiftDesk desk = Desks.of(2, 2);
        for (int lift : new int[] {Integer.MIN_VALUE, -1, 2, Integer.MAX_VALUE}) {
            Check.throwsIt("21: score(" + lift + ", 0)", Check.INDEX, () -> desk.score(lift, 0));
        }
        for (int floor : new int[] {Integer.MIN_VALUE, -1, 10, Integer.MAX_VALUE}) {
            Check.throwsIt("21: score(0, " + floor + ")", Check.INDEX, () -> desk.score(0, floor));
        }
        due("21: the same floor", desk.score(0, 0), 0);
        due("21: nine floors", desk.score(0, 9), 9);
        desk.call(0, 0, 4);
        due("21: one who waits", desk.score(0, 0), 2);
        due("21: not the other lift", desk.score(1, 0), 0);
        desk.pass(3);
        due("21: one aboard, below", desk.score(0, 1), 3);
        due("21: one aboard, above", desk.score(0, 5), 5);
        desk.call(1, 2, 3);
        due("21: the one with the least score", desk.liftOf(1), 0);
        due("21: one aboard and one who waits", desk.score(0, 2), 4);
        desk.callOff(0);
        due("21: called off", desk.score(0, 0), 4);
        desk.pass(5);
        due("21: being cleaned", desk.service(0), 'c');
        due("21: being cleaned, nobody counts", desk.score(0, 0), 4);
    }

    private static void pass() {
        LiftDesk desk = Desks.of(4);
        for (int ticks : new int[] {Integer.MIN_VALUE, -1, 0, 101, Integer.MAX_VALUE}) {
            Check.throwsIt("22: pass(" + ticks + ")", Check.ARGUMENT, () -> desk.pass(ticks));
        }
        due("22: nobody is there", desk.pass(100), 0);
        desk.call(0, 0, 1);
        desk.call(1, 0, 1);
        desk.call(2, 0, 2);
        due("22: aboard", desk.pass(1), 0);
        due("22: there", desk.pass(1), 0);
        due("22: two leave", desk.pass(1), 2);
        due("22: the third one", desk.pass(2), 1);
        desk.call(0, 0, 1);
        desk.alarm(5);
        due("22: those whom the alarm lets be done are not counted", desk.pass(1), 0);
    }

    private static void time() {
        LiftDesk desk = Desks.of(1);
        desk.pass(1);
        due("23: one", desk.time(), 1);
        desk.pass(100);
        due("23: it does not begin again with the day", desk.time(), 101);
        Check.throwsIt("23: a wrong number", Check.ARGUMENT, () -> desk.pass(101));
        due("23: nothing passed", desk.time(), 101);
        desk.call(0, 0, 1);
        due("23: a call takes no time", desk.time(), 101);
    }

    private static void alarm() {
        LiftDesk desk = Desks.of(1);
        for (int floor : new int[] {Integer.MIN_VALUE, -1, 10, Integer.MAX_VALUE}) {
            Check.throwsIt("24: alarm(" + floor + ")", Check.INDEX, () -> desk.alarm(floor));
        }
        Check.throwsIt("24: nobody is there", Check.STATE, () -> desk.alarm(5));
        desk.call(0, 0, 9);
        desk.pass(3);
        desk.call(1, 0, 9);
        desk.call(2, 2, 9);
        desk.call(3, 0, 9);
        due("24: two in the lobby are done", desk.alarm(0), 2);
        due("24: states", "" + desk.state(0) + desk.state(1) + desk.state(2) + desk.state(3), "adwd");
        due("24: aims", "" + desk.aim(0) + desk.aim(1) + desk.aim(2) + desk.aim(3), "0000");
        Check.throwsIt("24: the one who waits has no lift", Check.NO_ELEMENT, () -> desk.liftOf(2));
        due("24: the one aboard has", desk.liftOf(0), 0);
        Check.throwsIt("24: there is one", Check.STATE, () -> desk.alarm(0));
        Check.throwsIt("24: no floor, though there is one", Check.INDEX, () -> desk.alarm(10));
        due("24: all are done", desk.pass(20), 2);
        Check.throwsIt("24: all are done", Check.STATE, () -> desk.alarm(0));
        alarmLeavesCleaningAlone();
        alarmGivesAnewAtEachTick();
    }

    private static void alarmLeavesCleaningAlone() {
        LiftDesk desk = Desks.of(1, 1);
        desk.call(0, 0, 4);
        desk.pass(3);
        desk.callOff(0);
        desk.callOff(1);
        desk.pass(1);
        desk.call(1, 1, 0);
        due("24: one aboard, one waits", desk.alarm(1), 2);
        due("24: called off", desk.service(0), 'o');
        due("24: being cleaned", desk.service(1), 'c');
        desk.pass(4);
        due("24: it brought its rider to the lobby", desk.state(0), 'd');
        due("24: it passed the one who waits", desk.state(1), 'w');
        Check.throwsIt("24: none is in service", Check.NO_ELEMENT, () -> desk.liftOf(1));
        desk.pass(1);
        due("24: its cleaning begins", desk.service(0), 'c');
        due("24: it waits for the cleaning", desk.pass(15), 0);
        due("24: the other one is in service", desk.service(1), 's');
        due("24: and fetches the rider", desk.pass(4), 1);
        due("24: the alarm ended", desk.isAlarm(), false);
    }

    private static void alarmGivesAnewAtEachTick() {
        LiftDesk desk = Desks.of(1, 1);
        desk.call(0, 5, 0);
        desk.call(1, 7, 0);
        desk.call(2, 5, 0);
        desk.alarm(6);
        desk.pass(1);
        due("24: the floor above has the turn", desk.turn(), 7);
        due("24: its rider has a lift", desk.liftOf(1), 0);
        Check.throwsIt("24: the others have none", Check.NO_ELEMENT, () -> desk.liftOf(0));
        Check.throwsIt("24: the others have none", Check.NO_ELEMENT, () -> desk.liftOf(2));
        due("24: the other lift stays", desk.floorOfLift(1), 0);
        desk.pass(7);
        due("24: it is fetched", desk.state(1), 'a');
        due("24: the floor below has the turn", desk.turn(), 5);
        desk.pass(1);
        due("24: the least score, in ascending order", desk.liftOf(0), 0);
        due("24: and the second one the other lift", desk.liftOf(2), 1);
        desk.pass(1);
        due("24: anew at each tick", desk.liftOf(2), 1);
        due("24: all are done", desk.pass(60), 3);
    }

    private static void isAlarm() {
        LiftDesk desk = Desks.of(1);
        desk.call(0, 0, 1);
        due("25: not yet", desk.isAlarm(), false);
        desk.alarm(3);
        due("25: it began, though nobody is there", desk.isAlarm(), true);
        desk.pass(1);
        due("25: it ended with the tick", desk.isAlarm(), false);
        desk.call(0, 1, 0);
        desk.alarm(3);
        desk.pass(3);
        due("25: the rider is aboard", desk.isAlarm(), true);
        due("25: the rider is done", desk.pass(1), 1);
        due("25: it ended with that tick", desk.isAlarm(), false);
        desk.call(0, 0, 1);
        due("25: riders can call again", desk.state(2), 'w');
    }

    private static void turn() {
        LiftDesk desk = Desks.of();
        Check.throwsIt("26: no alarm", Check.NO_ELEMENT, desk::turn);
        desk.call(0, 0, 1);
        Check.throwsIt("26: no alarm, though somebody waits", Check.NO_ELEMENT, desk::turn);
        desk.alarm(1);
        Check.throwsIt("26: nobody waits", Check.NO_ELEMENT, desk::turn);
        int[][] turns = {{5, 4, 6, 6}, {5, 4, 7, 4}, {5, 3, 7, 7}, {5, 5, 6, 5}, {9, 1, 8, 8}, {0, 9, 8, 8},
            {9, 9, 1, 9}, {1, 9, 8, 8}, {4, 1, 9, 1}, {6, 1, 9, 9}, {0, 1, 9, 1}, {8, 3, 9, 9}};
        for (int[] row : turns) {
            LiftDesk other = Desks.of();
            other.call(0, row[1], 0);
            other.call(1, row[2], 0);
            other.alarm(row[0]);
            due("26: alarm on " + row[0] + ", waiting on " + row[1] + " and " + row[2], other.turn(), row[3]);
        }
        for (int floor = 0; floor < 10; floor++) {
            for (int from = 1; from < 10; from++) {
                LiftDesk other = Desks.of();
                other.call(0, from, 0);
                other.alarm(floor);
                due("26: alarm on " + floor + ", waiting on " + from, other.turn(), from);
            }
        }
        LiftDesk last = Desks.of(1);
        last.call(0, 1, 0);
        last.alarm(1);
        last.pass(2);
        Check.throwsIt("26: all who are there are aboard", Check.NO_ELEMENT, last::turn);
    }

    private static void opened() {
        LiftDesk desk = Desks.of(4, 4);
        desk.call(0, 0, 1);
        desk.call(1, 0, 1);
        desk.call(2, 0, 2);
        due("27: not yet", desk.opened(), 0);
        desk.pass(1);
        due("27: once for all who enter, in two lifts", desk.opened(), 2);
        desk.call(3, 1, 2);
        desk.pass(2);
        due("27: leaving and entering is once", desk.opened(), 4);
        desk.setRevoked(2, true);
        desk.pass(2);
        due("27: rider 3 and 2 on the floor 2", "" + desk.state(2) + desk.state(3), "ad");
        due("27: one left, one was refused", desk.opened(), 5);
        desk.pass(3);
        due("27: in the lobby", desk.opened(), 6);
        desk.call(0, 0, 5);
        desk.alarm(1);
        due("27: the alarm opens no door", desk.opened(), 6);
    }

    private static void refused() {
        LiftDesk desk = Desks.of(2);
        desk.setTenant(5, 0);
        desk.call(0, 0, 5);
        desk.call(1, 0, 4);
        desk.setHours(4, 50, 60);
        desk.pass(5);
        due("28: not yet", desk.refused(), 0);
        desk.pass(1);
        due("28: out of hours", desk.refused(), 1);
        due("28: no door, and it moves in the same tick", desk.floorOfLift(0), 5);
        due("28: it goes on to the aim ahead", desk.isUp(0), true);
        desk.setTenant(5, 1);
        desk.pass(1);
        due("28: another tenant by now", desk.refused(), 2);
        due("28: it turns round in the same tick", desk.floorOfLift(0), 4);
        due("28: down", desk.isUp(0), false);
        due("28: doors", desk.opened(), 1);
        desk.setTenant(5, 0);
        desk.setHours(4, 0, 100);
        due("28: both leave in the lobby alone", desk.pass(5), 2);
        due("28: where they are done", "" + desk.floorOf(0) + desk.floorOf(1), "00");
        due("28: not again", desk.refused(), 2);
        dayTurnsMidway();
    }

    private static void dayTurnsMidway() {
        LiftDesk desk = Desks.of(1);
        desk.setHours(3, 90, 100);
        desk.pass(95);
        desk.call(0, 0, 3);
        due("28: the tick at 99 lets the rider out", desk.pass(5), 1);
        desk.pass(93);
        desk.call(0, 0, 3);
        due("28: the rider is there when the day has turned", desk.pass(7), 0);
        due("28: not yet", desk.refused(), 0);
        desk.pass(20);
        due("28: too late", desk.refused(), 1);
        due("28: done in the lobby", desk.floorOf(1), 0);
    }

    private static void doneShare() {
        LiftDesk desk = Desks.of(4);
        Check.throwsIt("29: nobody called", Check.ARITHMETIC, desk::doneShare);
        desk.call(0, 0, 1);
        due("29: none", desk.doneShare(), 0.0f);
        desk.pass(3);
        due("29: all", desk.doneShare(), 1.0f);
        desk.call(0, 0, 1);
        desk.call(1, 0, 1);
        due("29: a third", desk.doneShare(), 1.0f / 3.0f);
        desk.alarm(1);
        due("29: with those of the alarm", desk.doneShare(), 1.0f);
    }

    private static void meanWait() {
        LiftDesk desk = Desks.of(4);
        Check.throwsIt("30: nobody called", Check.ARITHMETIC, desk::meanWait);
        desk.call(0, 0, 1);
        due("30: nothing yet", desk.meanWait(), 0.0);
        desk.pass(1);
        desk.call(1, 9, 0);
        desk.call(2, 8, 0);
        desk.pass(1);
        due("30: those who wait count", desk.meanWait(), 2.0 / 3.0);
        desk.pass(60);
        due("30: and those who are done", desk.meanWait(), (desk.waited(1) + desk.waited(2)) / 3.0);
        due("30: each up the shaft and a door", desk.waited(2) + " " + desk.waited(1), "9 11");
    }
}
