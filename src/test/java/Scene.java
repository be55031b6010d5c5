import java.util.List;
import java.util.function.Supplier;

/**
 * A desk in which something is under way, made anew as often as a test wants, by 90 calls at the most: how many badges
 * it has, what its lifts do, and the states of its riders.
 */
record Scene(String name, Supplier<LiftDesk> maker, int badges, String services, String states) {
    static List<Scene> all() {
        return List.of(
            new Scene("empty", LiftDesk::new, 0, "", ""),
            new Scene("some", Scene::some, 3, "s", "aw"),
            new Scene("full", Scene::full, 8, "sss", ""),
            new Scene("busy", Scene::busy, 8, "cso", "daaww"),
            new Scene("stopped", Scene::stopped, 8, "ccc", "w"),
            new Scene("alarmed", Scene::alarmed, 8, "ssc", "awwd"),
            new Scene("deserted", Scene::deserted, 8, "sss", "d"),
            new Scene("spent", Scene::spent, 8, "sss", "d".repeat(28) + "aw"));
    }

    int lifts() {
        return services.length();
    }

    int riders() {
        return states.length();
    }

    LiftDesk make() {
        return maker.get();
    }

    /** The floors 4, 7 and 8 stay open at all times. */
    private static void furnish(LiftDesk desk) {
        desk.setTenant(5, 1);
        desk.setTenant(9, 3);
        desk.setHours(1, 20, 80);
        desk.setHours(2, 0, 50);
        desk.setHours(3, 60, 100);
        desk.setHours(6, 10, 90);
    }

    /** The rider 0 is aboard, the rider 1 waits, and there could be more lifts and badges. */
    private static LiftDesk some() {
        LiftDesk desk = new LiftDesk();
        furnish(desk);
        desk.addLift(2);
        for (int badge = 0; badge < 3; badge++) {
            desk.addBadge(badge);
        }
        desk.call(0, 0, 4);
        desk.pass(2);
        desk.call(1, 3, 0);
        return desk;
    }

    /** All lifts and badges that there may be, the badge 6 revoked, and no rider. */
    private static LiftDesk full() {
        LiftDesk desk = Desks.of(1, 2, 4);
        furnish(desk);
        desk.setRevoked(6, true);
        desk.pass(30);
        return desk;
    }

    /**
     * The rider 0 is done, 1 and 2 are aboard of the lifts 1 and 2, 3 and 4 wait for the lift 1; the lift 0 is being
     * cleaned, the lift 2 is called off.
     */
    private static LiftDesk busy() {
        LiftDesk desk = full();
        desk.call(4, 0, 1);
        desk.pass(3);
        desk.callOff(0);
        desk.pass(1);
        desk.call(0, 0, 4);
        desk.call(1, 0, 5);
        desk.pass(2);
        desk.callOff(2);
        desk.call(2, 8, 0);
        desk.call(3, 9, 2);
        return desk;
    }

    /** No lift is in service, and the rider 0 waits without one. */
    private static LiftDesk stopped() {
        LiftDesk desk = full();
        for (int lift = 0; lift < 3; lift++) {
            desk.callOff(lift);
        }
        desk.pass(1);
        desk.call(0, 3, 0);
        return desk;
    }

    /** An alarm: the rider 0 is aboard, 1 waits without a lift, 2 with one, since its floor has the turn; 3 is done. */
    private static LiftDesk alarmed() {
        LiftDesk desk = full();
        desk.call(0, 0, 4);
        desk.pass(2);
        desk.call(1, 6, 0);
        desk.call(2, 8, 0);
        desk.call(3, 0, 4);
        desk.callOff(2);
        desk.alarm(7);
        desk.pass(1);
        return desk;
    }

    /** An alarm that left nobody, since the one rider waited in the lobby. */
    private static LiftDesk deserted() {
        LiftDesk desk = full();
        desk.call(0, 0, 4);
        desk.alarm(2);
        return desk;
    }

    /** All riders that there may be: the rider 28 is aboard, 29 waits, the others are done. */
    private static LiftDesk spent() {
        LiftDesk desk = full();
        for (int rider = 0; rider < 28; rider++) {
            desk.call(rider % 8, 1, 0);
            desk.pass(5);
        }
        desk.call(0, 0, 4);
        desk.pass(1);
        desk.call(1, 8, 0);
        return desk;
    }
}
