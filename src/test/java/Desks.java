/** Buildings to begin a test with. */
final class Desks {
    private Desks() {
    }

    /** A building with lifts of these capacities, and eight badges: two of each tenant, 0 and 4 of the tenant 0. */
    static LiftDesk of(int... capacities) {
        LiftDesk desk = new LiftDesk();
        for (int capacity : capacities) {
            desk.addLift(capacity);
        }
        for (int i = 0; i < 8; i++) {
            desk.addBadge(i % 4);
        }
        return desk;
    }

    /** The same, behind so many riders, of all badges in turn, who went from the floor 1 to the lobby and are done. */
    static LiftDesk behindRiders(int riders, int... capacities) {
        LiftDesk desk = of(capacities);
        for (int rider = 0; rider < riders; rider++) {
            desk.call(rider % 8, 1, 0);
            desk.pass(5);
        }
        return desk;
    }
}
