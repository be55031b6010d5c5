/** The boundary cases that the document names under "Terms", sentence by sentence, worked out by hand. */
public final class TermsTest {
    public static void main(String[] args) {
        timeBeginsAtZero();
        timeOfTheDay();
        hoursWithTheirEnd();
        hoursOfOneTick();
        hoursAtFirst();
        firstRuleThatApplies();
        hoursAtTheTickOfLeaving();
        firstAndLastFloor();
        liftTurnsAtBothEnds();
        sameScoreByCall();
        sameScoreByTick();
        sameScoreInAnAlarm();
        whoCountsForAScore();
        riderWithoutALift();
        ticksGiveLiftsInAscendingOrder();
        fullLift();
        leavingMakesRoomInTheSameTick();
        refusedOpensNoDoor();
        refusedWhileAnotherLeaves();
        refusedWhileAnotherGoesAboard();
        refusedInALiftCalledOff();
        revokedWhileWaiting();
        validAgainMidway();
        aheadGoesBeforeNearer();
        liftWithoutAim();
        twentyTicksOfCleaning();
        cleaningWaitsForThoseAboard();
        calledOffTakesNobody();
        callingOffTakesLiftsFromThoseWhoWait();
        cleaningAgain();
        waitedAtItsBoundaries();
        alarmBegins();
        alarmWithNobodyLeft();
        alarmWithSomebodyAboardInTheLobby();
        alarmWithoutALiftInService();
        alarmWithAFullLift();
        alarmTakesALiftThatPasses();
        alarmEndsMidway();
        alarmLeavesTheAimsOfThoseDone();
        turnsGoOutwards();
        Check.end();
    }

    private static void due(String what, Object got, Object want) {
        Check.due(what, got, want);
    }

    /** What a rider's lift is, as a sign: its number, or - for none. */
    private static String liftsOf(LiftDesk desk, int riders) {
        StringBuilder signs = new StringBuilder();
        for (int i = 0; i < riders; i++) {
            int rider = i;
            Object answer = Check.answerOrThrown(() -> desk.liftOf(rider));
            signs.append(answer.equals("throws.NoSuchElementException") ? "-" : answer);
        }
        return signs.toString();
    }

    private static String states(LiftDesk desk, int riders) {
        StringBuilder signs = new StringBuilder();
        for (int rider = 0; rider < riders; rider++) {
            signs.append(desk.state(rider));
        }
        return signs.toString();
    }

    /** The floors on which a lift is at first and behind each of the ticks. */
    private static String floors(LiftDesk desk, int lift, int ticks) {
        StringBuilder signs = new StringBuilder().append(desk.floorOfLift(lift));
        for (int tick = 0; tick < ticks; tick++) {
            desk.pass(1);
            signs.append(desk.floorOfLift(lift));
        }
        return signs.toString();
    }

    private static String services(LiftDesk desk, int lift, int ticks) {
        StringBuilder signs = new StringBuilder().append(desk.service(lift));
        for (int tick = 0; tick < ticks; tick++) {
            desk.pass(1);
            signs.append(desk.service(lift));
        }
        return signs.toString();
    }

    // Time and floors.

    private static void timeBeginsAtZero() {
        LiftDesk desk = new LiftDesk();
        due("time at first", desk.time(), 0);
        due("pass without lifts and badges", desk.pass(1), 0);
        due("time behind a tick", desk.time(), 1);
        due("the most ticks", desk.pass(100), 0);
        due("time behind the most ticks", desk.time(), 101);
    }

    private static void timeOfTheDay() {
        LiftDesk desk = Desks.of();
        desk.setHours(1, 99, 100);
        desk.setHours(2, 0, 1);
        int[] times = {0, 1, 98, 99, 100, 101, 198, 199, 200, 201, 299, 300, 301};
        String lastOfDay = "";
        String firstOfDay = "";
        for (int time : times) {
            if (time > desk.time()) {
                desk.pass(time - desk.time());
            }
            lastOfDay += desk.reason(0, 1);
            firstOfDay += desk.reason(0, 2);
        }
        due("the last time of the day", lastOfDay, "hhhnhhhnhhnhh");
        due("the first time of the day", firstOfDay, "nhhhnhhhnhhnh");
    }

    private static void hoursWithTheirEnd() {
        LiftDesk desk = Desks.of(1);
        desk.setHours(9, 40, 60);
        desk.pass(39);
        due("before the first time", desk.reason(0, 9), 'h');
        Check.throwsIt("before the first time nobody can call", Check.UNSUPPORTED, () -> desk.call(0, 0, 9));
        desk.pass(1);
        due("the first time", desk.reason(0, 9), 'n');
        due("from the first time on riders can call", desk.call(0, 0, 9), 0);
        desk.pass(19);
        due("the last time", desk.reason(1, 9), 'n');
        due("at the last time riders can call", desk.call(1, 8, 9), 1);
        desk.pass(1);
        due("the end", desk.reason(0, 9), 'h');
        Check.throwsIt("at the end nobody can call", Check.UNSUPPORTED, () -> desk.call(2, 0, 9));
    }

    private static void hoursOfOneTick() {
        for (int first : new int[] {0, 1, 50, 98, 99}) {
            LiftDesk desk = Desks.of();
            due("hours of one time", desk.setHours(4, first, first + 1), 1);
            String open = "";
            for (int time = 0; time < 100; time++) {
                open += desk.reason(0, 4) == 'n' ? time + " " : "";
                desk.pass(1);
            }
            due("open at " + first + " alone", open, first + " ");
        }
    }

    private static void hoursAtFirst() {
        LiftDesk desk = Desks.of();
        int closed = 0;
        for (int time = 0; time < 101; time++) {
            for (int floor : new int[] {1, 5, 9}) {
                closed += desk.reason(3, floor) == 'n' ? 0 : 1;
            }
            desk.pass(1);
        }
        due("at first the hours are from 0 to 100", closed, 0);
        desk.setHours(1, 1, 2);
        due("out of the hours that were set", desk.reason(3, 1), desk.time() % 100 == 1 ? 'n' : 'h');
        desk.setHours(1, 0, 100);
        due("and the hours of a new floor again", desk.reason(3, 1), 'n');
    }

    private static void firstRuleThatApplies() {
        LiftDesk desk = Desks.of();
        desk.setTenant(1, 0);
        desk.setHours(1, 50, 60);
        desk.setHours(2, 50, 60);
        due("of the tenant, and out of hours", desk.reason(0, 1), 'n');
        due("of another tenant, and out of hours", desk.reason(1, 1), 't');
        due("the tenant 0 is a tenant", desk.reason(3, 1), 't');
        desk.setRevoked(0, true);
        due("revoked, of the tenant", desk.reason(0, 1), 'r');
        due("revoked, out of hours", desk.reason(0, 2), 'r');
        due("revoked, in the hours", desk.reason(0, 3), 'r');
        due("revoked, the lobby", desk.reason(0, 0), 'n');
        due("the other badge of the tenant", desk.reason(4, 1), 'n');
        desk.pass(50);
        due("in the hours, of another tenant", desk.reason(1, 1), 't');
        desk.setTenant(1, -1);
        due("in the hours, without a tenant", desk.reason(1, 1), 'n');
    }

    /** The time increases behind all lifts: a rider leaves at the time at which the tick began. */
    private static void hoursAtTheTickOfLeaving() {
        for (int end : new int[] {4, 5}) {
            LiftDesk desk = Desks.of(1);
            desk.setHours(3, 0, end);
            desk.call(0, 0, 3);
            desk.pass(4);
            due("there at the time 4, hours to " + end, desk.floorOf(0), 3);
            due("done if the hours end at 5", desk.pass(1), end == 5 ? 1 : 0);
            due("refused if they end at 4", desk.refused(), end == 5 ? 0 : 1);
        }
        LiftDesk late = Desks.of(1);
        late.setHours(3, 4, 100);
        late.pass(100);
        late.setHours(3, 0, 100);
        late.call(0, 0, 3);
        late.setHours(3, 4, 5);
        due("the first time is in the hours", late.pass(5), 1);
        due("nobody was refused", late.refused(), 0);
    }

    private static void firstAndLastFloor() {
        LiftDesk desk = Desks.of(1);
        desk.call(0, 0, 9);
        due("up", floors(desk, 0, 11), "001234567899");
        due("done on the last floor", states(desk, 1), "d");
        desk.call(0, 9, 0);
        due("down", floors(desk, 0, 11), "998765432100");
        due("done on the first floor", states(desk, 2), "dd");
        due("waited for a lift on the floor", desk.waited(1), 0);
        due("four doors", desk.opened(), 4);
    }

    private static void liftTurnsAtBothEnds() {
        LiftDesk desk = Desks.of(1);
        desk.call(0, 9, 8);
        due("up to the last floor", floors(desk, 0, 10), "01234567899");
        due("still up", desk.isUp(0), true);
        desk.pass(1);
        due("turned round and moved in one tick", desk.floorOfLift(0), 8);
        due("down", desk.isUp(0), false);
        desk.pass(1);
        desk.call(1, 0, 1);
        due("down to the first floor", floors(desk, 0, 9), "8765432100");
        due("still down", desk.isUp(0), false);
        desk.pass(1);
        due("turned round again", desk.floorOfLift(0), 1);
        due("up", desk.isUp(0), true);
    }

    // The score, and several lifts with the same.

    /** Lifts at rest on the floors 4, 1 and 6. */
    private static LiftDesk onFourOneAndSix() {
        LiftDesk desk = Desks.of(4, 4, 4);
        desk.call(0, 0, 4);
        desk.call(1, 0, 1);
        desk.call(2, 0, 6);
        desk.pass(8);
        due("the lifts", "" + desk.floorOfLift(0) + desk.floorOfLift(1) + desk.floorOfLift(2), "416");
        due("all rest", desk.doneShare(), 1.0f);
        return desk;
    }

    private static void sameScoreByCall() {
        LiftDesk desk = Desks.of(1, 1, 1);
        for (int badge = 0; badge < 7; badge++) {
            desk.call(badge, 5, 0);
        }
        due("all at the same score, in turns", liftsOf(desk, 7), "0120120");
        LiftDesk apart = onFourOneAndSix();
        due("0 and 2 at 1", apart.liftOf(apart.call(0, 5, 0)), 0);
        due("2 at 1 against 3", apart.liftOf(apart.call(1, 5, 0)), 2);
        due("0 and 2 at 3", apart.liftOf(apart.call(2, 5, 0)), 0);
        due("2 at 3 against 4 and 5", apart.liftOf(apart.call(3, 5, 0)), 2);
        due("1 at 4 against 5", apart.liftOf(apart.call(4, 5, 0)), 1);
        due("0 and 2 at 5 against 6", apart.liftOf(apart.call(5, 5, 0)), 0);
        LiftDesk below = onFourOneAndSix();
        below.call(3, 4, 0);
        due("1 and 2 at 3 against 5, the one below and the one above", below.score(1, 3) + below.score(2, 3), 5);
        due("0 at 3, 1 at 2", below.liftOf(below.call(4, 3, 0)), 1);
        due("0 and 2 at 3, 1 at 4", below.liftOf(below.call(5, 3, 0)), 0);
        due("2 at 3 against 4 and 5", below.liftOf(below.call(6, 3, 0)), 2);
        LiftDesk off = onFourOneAndSix();
        off.callOff(0);
        due("1 and 2 in service", off.liftOf(off.call(0, 4, 0)), 2);
        due("1 at 3 against 4", off.liftOf(off.call(1, 4, 0)), 1);
        due("2 at 4 against 5", off.liftOf(off.call(2, 4, 0)), 2);
    }

    private static void sameScoreByTick() {
        LiftDesk desk = Desks.of();
        for (int badge = 0; badge < 7; badge++) {
            desk.call(badge, 5, 0);
        }
        due("there is no lift", liftsOf(desk, 7), "-------");
        desk.pass(3);
        due("ticks don't help", liftsOf(desk, 7), "-------");
        for (int lift = 0; lift < 3; lift++) {
            desk.addLift(1);
        }
        due("a tick gives them", liftsOf(desk, 7), "-------");
        desk.pass(1);
        due("all at the same score, in turns", liftsOf(desk, 7), "0120120");
    }

    private static void sameScoreInAnAlarm() {
        LiftDesk desk = Desks.of(1, 1, 1);
        for (int badge = 0; badge < 5; badge++) {
            desk.call(badge, 5, 0);
        }
        desk.alarm(5);
        due("none at first", liftsOf(desk, 5), "-----");
        desk.pass(1);
        due("all at the same score, in turns", liftsOf(desk, 5), "01201");
        desk.pass(1);
        due("and the same at the next tick", liftsOf(desk, 5), "01201");
        desk.pass(4);
        due("one aboard of each", states(desk, 5), "aaaww");
        desk.pass(3);
        due("those aboard keep theirs, though their floor has the turn still", liftsOf(desk, 5), "01201");
        desk.pass(3);
        due("the first three are done", states(desk, 5), "dddww");
    }

    private static void whoCountsForAScore() {
        LiftDesk desk = Desks.of(2, 2);
        desk.callOff(1);
        due("empty, on the floor", desk.score(0, 0), 0);
        desk.call(0, 3, 9);
        due("one who waits, wherever that is", desk.score(0, 0), 2);
        due("the score goes by the lift's floor", desk.score(0, 9), 11);
        desk.call(1, 3, 5);
        desk.call(2, 3, 6);
        due("three who wait", desk.score(0, 3), 9);
        desk.pass(4);
        due("two aboard, one who waits", states(desk, 3), "aaw");
        due("on the floor", desk.score(0, 3), 6);
        due("below it", desk.score(0, 1), 8);
        due("above it", desk.score(0, 5), 8);
        due("not those of another lift", desk.score(1, 0), 0);
        desk.callOff(0);
        due("not one who has no lift any more", desk.score(0, 3), 4);
        desk.pass(3);
        due("one is done", states(desk, 3), "adw");
        due("not one who is done", desk.score(0, 5), 2);
        desk.pass(5);
        due("all aboard are done", states(desk, 3), "ddw");
        due("nobody", desk.score(0, 0) + desk.score(0, 9), 9);
    }

    // Who gets a lift, and when.

    private static void riderWithoutALift() {
        LiftDesk desk = Desks.of(1);
        desk.callOff(0);
        desk.call(0, 0, 5);
        due("none in service by the call", liftsOf(desk, 1), "-");
        due("the floor", desk.floorOf(0), 0);
        due("the state", desk.state(0), 'w');
        desk.pass(21);
        due("in service behind the tick, but none given", desk.service(0) + liftsOf(desk, 1), "s-");
        desk.pass(1);
        due("given by the next tick, and aboard in it", desk.state(0) + liftsOf(desk, 1), "a0");
        due("waited all the while", desk.waited(0), 21);
    }

    private static void ticksGiveLiftsInAscendingOrder() {
        LiftDesk desk = Desks.of();
        desk.call(0, 5, 0);
        desk.call(1, 0, 9);
        desk.addLift(1);
        desk.addLift(1);
        desk.pass(1);
        due("the first rider came first", liftsOf(desk, 2), "01");
        due("the second is aboard", states(desk, 2), "wa");
        LiftDesk turned = Desks.of();
        turned.call(0, 0, 9);
        turned.call(1, 5, 0);
        turned.addLift(1);
        turned.addLift(1);
        turned.pass(1);
        due("the other way round", liftsOf(turned, 2), "01");
        due("the first is aboard", states(turned, 2), "aw");
    }

    // Room.

    private static void fullLift() {
        LiftDesk desk = Desks.of(1);
        desk.call(0, 2, 4);
        desk.call(1, 3, 9);
        desk.call(2, 1, 0);
        due("it takes the first that it meets, and passes by when full", floors(desk, 0, 9), "0110012234");
        due("it passed the one on the floor 3", states(desk, 3), "awd");
        due("and comes back when it has room", floors(desk, 0, 3), "4433");
        due("aboard", states(desk, 3), "dad");
        LiftDesk roomy = Desks.of(2);
        roomy.call(0, 2, 4);
        roomy.call(1, 3, 9);
        due("with room it stops for the second", floors(roomy, 0, 8), "012233445");
        due("the first is done", states(roomy, 2), "da");
    }

    private static void leavingMakesRoomInTheSameTick() {
        LiftDesk desk = Desks.of(1);
        desk.call(0, 0, 3);
        desk.call(1, 3, 6);
        desk.call(2, 3, 7);
        desk.pass(4);
        due("there", states(desk, 3) + desk.floorOfLift(0), "aww3");
        due("one door", desk.opened(), 1);
        due("one leaves", desk.pass(1), 1);
        due("one goes aboard, the lower number", states(desk, 3), "daw");
        due("both through one door", desk.opened(), 2);
        due("the lift stayed", desk.floorOfLift(0), 3);
        due("it is full again", desk.aboard(0), 1);
    }

    // Those who may not leave.

    private static void refusedOpensNoDoor() {
        LiftDesk desk = Desks.of(1);
        desk.call(0, 0, 2);
        desk.pass(3);
        desk.setRevoked(0, true);
        due("there", desk.floorOf(0) + " " + desk.aim(0) + " " + desk.refused(), "2 2 0");
        due("nobody is done", desk.pass(1), 0);
        due("it moves in the same tick", desk.floorOf(0) + " " + desk.aim(0) + " " + desk.refused(), "1 0 1");
        due("no door but that of going aboard", desk.opened(), 1);
        due("no entry but those of calling and going aboard", desk.entries(), 2);
        desk.setRevoked(0, false);
        due("the lobby all the same", floors(desk, 0, 2), "100");
        due("done there", desk.floorOf(0) + " " + desk.state(0) + " " + desk.refused(), "0 d 1");
        due("the badge can call again", desk.call(0, 0, 2), 1);
    }

    private static void refusedWhileAnotherLeaves() {
        LiftDesk desk = Desks.of(2);
        desk.call(0, 0, 2);
        desk.call(1, 0, 2);
        desk.pass(3);
        desk.setRevoked(0, true);
        due("one leaves", desk.pass(1), 1);
        due("the other one does not", states(desk, 2), "ad");
        due("the door was opened, and this was all", desk.opened() + " " + desk.floorOfLift(0), "2 2");
        due("refused once", desk.refused() + " " + desk.aim(0), "1 0");
        desk.pass(1);
        due("then it moves", desk.floorOfLift(0), 1);
        due("and is not refused again", desk.refused(), 1);
    }

    /** One who is refused keeps the room. */
    private static void refusedWhileAnotherGoesAboard() {
        LiftDesk desk = Desks.of(2);
        desk.call(0, 0, 2);
        desk.call(1, 2, 5);
        desk.call(2, 2, 6);
        desk.pass(3);
        desk.setTenant(2, 3);
        due("nobody is done", desk.pass(1), 0);
        due("one goes aboard, since there is room for one", states(desk, 3), "aaw");
        due("one was refused", desk.refused() + " " + desk.aim(0), "1 0");
        due("the door was opened for the other", desk.opened() + " " + desk.floorOfLift(0), "2 2");
        desk.pass(1);
        due("it goes on up, where the second goes", desk.floorOfLift(0), 3);
    }

    private static void refusedInALiftCalledOff() {
        LiftDesk desk = Desks.of(1);
        desk.call(0, 0, 2);
        desk.pass(3);
        desk.setRevoked(0, true);
        desk.callOff(0);
        due("it brings its rider to the lobby first", services(desk, 0, 4), "ooooc");
        due("and is in the lobby", desk.floorOfLift(0) + " " + desk.state(0), "0 d");
    }

    /** One whose badge is revoked keeps the lift, goes aboard, and is refused on the floor alone. */
    private static void revokedWhileWaiting() {
        LiftDesk desk = Desks.of(1);
        desk.call(0, 1, 2);
        desk.setRevoked(0, true);
        due("it waits, and has its lift", desk.state(0) + liftsOf(desk, 1) + desk.aim(0), "w02");
        due("it is fetched", floors(desk, 0, 3), "0112");
        due("aboard, not yet refused", desk.state(0) + " " + desk.aim(0) + " " + desk.refused(), "a 2 0");
        due("refused there, and brought to the lobby", floors(desk, 0, 3), "2100");
        due("done there", desk.state(0) + " " + desk.floorOf(0) + " " + desk.refused(), "d 0 1");
    }

    private static void validAgainMidway() {
        LiftDesk desk = Desks.of(1);
        desk.call(0, 0, 3);
        desk.pass(2);
        desk.setRevoked(0, true);
        desk.pass(2);
        due("there", desk.floorOf(0), 3);
        desk.setRevoked(0, false);
        due("valid in the tick in which it counts", desk.pass(1), 1);
        due("done where it went", desk.floorOf(0) + " " + desk.refused(), "3 0");
    }

    // Where a lift moves.

    private static void aheadGoesBeforeNearer() {
        LiftDesk desk = Desks.of(2);
        desk.call(0, 4, 9);
        desk.pass(5);
        desk.call(1, 3, 0);
        due("on the floor 4 with an aim ahead and one right behind", floors(desk, 0, 6), "4567899");
        due("up as long as an aim lies ahead", desk.isUp(0), true);
        due("then it turns round", floors(desk, 0, 2), "987");
        due("down", desk.isUp(0), false);
        desk.call(2, 8, 9);
        due("down as long as an aim lies ahead", floors(desk, 0, 8), "765433210");
        due("then it turns round again", floors(desk, 0, 2), "001");
    }

    private static void liftWithoutAim() {
        LiftDesk desk = Desks.of(1, 1);
        due("it stays in the lobby", floors(desk, 0, 3), "0000");
        due("up, as at first", desk.isUp(0), true);
        desk.call(0, 3, 2);
        desk.pass(6);
        due("done", states(desk, 1), "d");
        due("it stays where its last rider left", floors(desk, 0, 5), "222222");
        due("and stays as it was turned", desk.isUp(0), false);
        due("it stays in service", desk.service(0), 's');
        desk.call(0, 2, 3);
        desk.pass(2);
        due("it turns when it has an aim", desk.floorOfLift(0) + " " + desk.isUp(0), "3 true");
        due("the other one never moved", desk.floorOfLift(1) + " " + desk.isUp(1), "0 true");
        desk.pass(1);
        due("an aim of another lift is none", desk.liftOf(desk.call(1, 0, 1)), 1);
        due("it stays for it", floors(desk, 0, 3), "3333");
    }

    // Cleaning.

    private static void twentyTicksOfCleaning() {
        LiftDesk desk = Desks.of(1);
        desk.call(0, 0, 3);
        desk.pass(5);
        desk.callOff(0);
        due("called off in one tick, cleaned in twenty", services(desk, 0, 22), "o" + "c".repeat(20) + "ss");
        due("where it was, and turned as it was", desk.floorOfLift(0) + " " + desk.isUp(0), "3 true");
        desk.call(0, 3, 1);
        desk.pass(4);
        desk.callOff(0);
        desk.pass(21);
        due("the same when it was turned down", desk.floorOfLift(0) + " " + desk.isUp(0) + desk.service(0), "1 falses");
        LiftDesk atOnce = Desks.of(1);
        atOnce.callOff(0);
        atOnce.pass(20);
        due("nineteen of twenty", atOnce.service(0), 'c');
        atOnce.pass(1);
        due("twenty", atOnce.service(0), 's');
        LiftDesk together = Desks.of(1);
        together.callOff(0);
        together.pass(100);
        due("and not again by itself", together.service(0), 's');
    }

    private static void cleaningWaitsForThoseAboard() {
        LiftDesk desk = Desks.of(2);
        desk.call(0, 0, 1);
        desk.call(1, 0, 2);
        desk.pass(1);
        due("nobody waits", desk.callOff(0), 0);
        // To the floor 1, out, to the floor 2, out, and the tick behind begins the cleaning.
        due("services", services(desk, 0, 6), "ooooocc");
        due("both are done", desk.doneShare(), 1.0f);
        due("where it was", desk.floorOfLift(0), 2);
    }

    private static void calledOffTakesNobody() {
        LiftDesk desk = Desks.of(4);
        desk.call(0, 0, 2);
        desk.pass(1);
        desk.callOff(0);
        desk.call(1, 1, 0);
        desk.call(2, 2, 0);
        desk.call(3, 5, 0);
        due("it goes where those aboard go, and nowhere else", floors(desk, 0, 4), "01222");
        due("it took nobody, though there was room", states(desk, 4), "dwww");
        due("nobody has a lift", liftsOf(desk, 4), "----");
        due("its cleaning began", desk.service(0), 'c');
    }

    private static void callingOffTakesLiftsFromThoseWhoWait() {
        LiftDesk desk = Desks.of(1, 1, 1);
        for (int badge = 0; badge < 8; badge++) {
            desk.call(badge, 0, 9);
        }
        due("in turns", liftsOf(desk, 8), "01201201");
        desk.pass(1);
        due("one aboard of each", states(desk, 8), "aaawwwww");
        due("two wait for the first lift", desk.callOff(0), 2);
        due("they have none, the one aboard has", liftsOf(desk, 8), "012-12-1");
        due("two wait for the second", desk.callOff(1), 2);
        due("one waits for the third", desk.callOff(2), 1);
        due("nobody who waits has one", liftsOf(desk, 8), "012-----");
        due("those aboard go on", desk.pass(11), 3);
        due("the others wait", states(desk, 8), "dddwwwww");
    }

    private static void cleaningAgain() {
        LiftDesk desk = Desks.of(1);
        desk.callOff(0);
        Check.throwsIt("while it is called off", Check.STATE, () -> desk.callOff(0));
        desk.pass(1);
        Check.throwsIt("at the first tick of the cleaning", Check.STATE, () -> desk.callOff(0));
        desk.pass(19);
        Check.throwsIt("at the last tick of the cleaning", Check.STATE, () -> desk.callOff(0));
        desk.pass(1);
        due("in service again, it can be called off again", desk.callOff(0), 0);
        due("for twenty ticks again", services(desk, 0, 21), "o" + "c".repeat(20) + "s");
    }

    // What is waited.

    private static void waitedAtItsBoundaries() {
        LiftDesk desk = Desks.of(1);
        desk.call(0, 0, 1);
        due("by the call", desk.waited(0) + " " + desk.waitedByLog(0), "0 0");
        desk.pass(1);
        due("aboard in the first tick", desk.waited(0) + " " + desk.waitedByLog(0), "0 0");
        desk.pass(100);
        due("done long ago", desk.waited(0) + " " + desk.waitedByLog(0), "0 0");
        desk.call(0, 0, 1);
        desk.pass(1);
        due("one tick away", desk.waited(1) + " " + desk.waitedByLog(1), "1 1");
        desk.pass(1);
        due("aboard in the second tick", desk.waited(1) + " " + desk.waitedByLog(1), "1 1");
        desk.callOff(0);
        desk.pass(3);
        desk.call(2, 0, 1);
        desk.pass(20);
        due("no tick counts twice", desk.waited(2) + " " + desk.waitedByLog(2), "20 20");
        LiftDesk never = Desks.of();
        never.call(0, 9, 0);
        never.call(1, 0, 9);
        for (int i = 0; i < 30; i++) {
            never.pass(100);
        }
        due("waiting for ever", never.waited(0) + " " + never.waitedByLog(0), "3000 3000");
        due("the mean of it", never.meanWait(), 3000.0);
        never.alarm(9);
        never.pass(100);
        due("done by the alarm", never.waited(1) + " " + never.waitedByLog(1), "3000 3000");
        due("waiting in the alarm", never.waited(0) + " " + never.waitedByLog(0), "3100 3100");
        due("the mean of both", never.meanWait(), 3050.0);
    }

    // Alarms.

    private static void alarmBegins() {
        LiftDesk desk = Desks.of(1, 1);
        desk.call(0, 0, 9);
        desk.call(1, 0, 9);
        desk.pass(4);
        desk.call(2, 0, 5);
        desk.call(3, 1, 5);
        desk.call(4, 9, 5);
        due("two aboard, three wait", states(desk, 5), "aawww");
        due("all have a lift", liftsOf(desk, 5), "01010");
        due("those who are there then", desk.alarm(9), 4);
        due("the one in the lobby is done", states(desk, 5), "aadww");
        due("those who wait have none any more", liftsOf(desk, 5), "01---");
        due("all go to the lobby", "" + desk.aim(0) + desk.aim(1) + desk.aim(2) + desk.aim(3) + desk.aim(4), "00000");
        due("an entry for the one who is done", desk.entries(), 8);
        due("no door", desk.opened(), 2);
        due("the lifts are where they were", "" + desk.floorOfLift(0) + desk.floorOfLift(1), "33");
        due("no time passed", desk.time(), 4);
        due("the scores go by those aboard", desk.score(0, 3) + desk.score(1, 3), 4);
    }

    private static void alarmWithNobodyLeft() {
        LiftDesk desk = Desks.of(1);
        desk.call(0, 0, 9);
        desk.call(1, 0, 5);
        due("all waited in the lobby", desk.alarm(5), 0);
        due("it lasts to the end of a tick", desk.isAlarm(), true);
        Check.throwsIt("nobody's floor has the turn", Check.NO_ELEMENT, desk::turn);
        Check.throwsIt("nobody can call", Check.STATE, () -> desk.call(2, 0, 9));
        Check.throwsIt("no lift can be called off", Check.STATE, () -> desk.callOff(0));
        Check.throwsIt("no second alarm", Check.STATE, () -> desk.alarm(5));
        due("none in the tick", desk.pass(1), 0);
        due("it ended", desk.isAlarm(), false);
        due("the lift stayed", desk.floorOfLift(0) + " " + desk.opened(), "0 0");
        Check.throwsIt("no alarm without riders", Check.STATE, () -> desk.alarm(5));
        due("riders can call", desk.liftOf(desk.call(0, 0, 9)), 0);
        due("lifts can be called off", desk.callOff(0), 1);
    }

    private static void alarmWithSomebodyAboardInTheLobby() {
        LiftDesk desk = Desks.of(1);
        desk.call(0, 0, 9);
        desk.pass(1);
        due("aboard in the lobby", desk.state(0) + " " + desk.floorOf(0), "a 0");
        due("not done by the alarm itself", desk.alarm(0), 1);
        due("aboard", states(desk, 1), "a");
        Check.throwsIt("nobody waits", Check.NO_ELEMENT, desk::turn);
        due("done by the next tick", desk.pass(1), 1);
        due("through the door", desk.opened() + " " + desk.floorOf(0), "2 0");
        due("it ended with that tick", desk.isAlarm(), false);
    }

    private static void alarmWithoutALiftInService() {
        LiftDesk none = Desks.of();
        none.call(0, 4, 9);
        due("no lifts at all", none.alarm(4), 1);
        due("nobody is done", none.pass(100), 0);
        due("the turn stays", none.turn(), 4);
        due("it lasts", none.isAlarm() + liftsOf(none, 1), "true-");
        for (int cleaned : new int[] {0, 1, 19, 20}) {
            LiftDesk desk = Desks.of(1);
            desk.callOff(0);
            desk.call(0, 1, 0);
            if (cleaned > 0) {
                desk.pass(cleaned);
            }
            desk.alarm(9);
            String left = (cleaned == 0 ? "o" : "c") + "c".repeat(20 - cleaned) + "s";
            due("the cleaning goes on behind " + cleaned + " ticks", services(desk, 0, 21 - cleaned), left);
            due("none given yet", liftsOf(desk, 1), "-");
            desk.pass(1);
            due("given by the tick behind", liftsOf(desk, 1) + desk.floorOfLift(0), "01");
            due("aboard, down, out", desk.pass(3), 1);
            due("it ended", desk.isAlarm(), false);
        }
    }

    /** A lift that is full still gets those of the turn, and leaves them until it has been in the lobby. */
    private static void alarmWithAFullLift() {
        LiftDesk desk = Desks.of(1);
        desk.call(0, 1, 9);
        desk.pass(4);
        due("aboard on the floor 3", states(desk, 1) + desk.floorOf(0), "a3");
        desk.call(1, 3, 9);
        desk.alarm(3);
        due("full, it turns to the lobby", floors(desk, 0, 4), "32100");
        due("the first is done", states(desk, 2) + liftsOf(desk, 2), "dw-0");
        due("then it fetches the second", floors(desk, 0, 8), "012332100");
        due("both are done", states(desk, 2), "dd");
        due("it ended", desk.isAlarm(), false);
    }

    /** Before their turn those who wait have no lift, so one that passes by does not take them. */
    private static void alarmTakesALiftThatPasses() {
        LiftDesk desk = Desks.of(4);
        desk.call(0, 2, 9);
        desk.call(1, 4, 9);
        desk.call(2, 4, 1);
        desk.alarm(4);
        due("past the floor 2, to the floor 4", floors(desk, 0, 5), "012344");
        due("both of the floor 4 are aboard", states(desk, 3), "waa");
        due("the floor 2 has the turn now", desk.turn(), 2);
        due("it stops there on its way down", floors(desk, 0, 5), "432210");
        due("all three", states(desk, 3) + desk.aboard(0), "aaa3");
        due("out in the lobby", desk.pass(1), 3);
        due("it ended", desk.isAlarm(), false);
        due("three doors", desk.opened(), 3);
    }

    private static void alarmEndsMidway() {
        LiftDesk desk = Desks.of(1);
        desk.call(0, 1, 9);
        desk.alarm(1);
        due("done in one of many ticks", desk.pass(100), 1);
        due("it ended", desk.isAlarm(), false);
        due("waited for the lift alone", desk.waited(0), 1);
        due("riders have lifts by the call again", desk.liftOf(desk.call(0, 1, 9)), 0);
        due("and go where they want", desk.pass(20), 1);
        due("there", desk.floorOf(1), 9);
        desk.call(0, 9, 8);
        due("a second alarm", desk.alarm(9), 1);
        due("its turn", desk.turn(), 9);
    }

    private static void alarmLeavesTheAimsOfThoseDone() {
        LiftDesk desk = Desks.of(1);
        desk.call(0, 0, 3);
        desk.pass(5);
        desk.call(1, 5, 9);
        desk.setRevoked(1, true);
        due("one is there", desk.alarm(0), 1);
        due("the one who was done went to the floor 3", desk.aim(0) + " " + desk.floorOf(0), "3 3");
        due("a revoked badge is let out in the lobby", desk.pass(20), 1);
        due("nobody was refused", desk.refused(), 0);
    }

    private static void turnsGoOutwards() {
        turnsOf(5, 5, 6, 4, 7, 3, 8, 2, 9, 1);
        turnsOf(9, 9, 8, 7, 6, 5, 4, 3, 2, 1);
        turnsOf(1, 1, 2, 3, 4, 5, 6, 7, 8, 9);
        turnsOf(0, 1, 2, 3, 4, 5, 6, 7, 8, 9);
        turnsOf(8, 8, 9, 7, 6, 5, 4, 3, 2, 1);
        turnsOf(2, 2, 3, 1, 4, 5, 6, 7, 8, 9);
        turnsOf(4, 4, 5, 3, 6, 2, 7, 1, 8, 9);
    }

    /** The floors in their order: riders wait on each of them from some one on, as far as the badges go. */
    private static void turnsOf(int alarm, int... order) {
        for (int first = 0; first < order.length; first++) {
            LiftDesk desk = Desks.of(4);
            int last = Math.min(order.length, first + 8) - 1;
            // The last floor calls first, so that the order of the riders is not that of the turns.
            for (int i = last; i >= first; i--) {
                desk.call(last - i, order[i], 0);
            }
            desk.alarm(alarm);
            due("alarm on " + alarm + ", the turn from " + first + " on", desk.turn(), order[first]);
        }
    }
}
