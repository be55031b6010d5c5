import java.util.ArrayList;
import java.util.HashMap;
import java.util.LinkedHashMap;
import java.util.List;
import java.util.Map;
import java.util.function.Function;

/**
 * A call that throws changes nothing: behind it a desk answers to everything, at once and later, as one does that was
 * never asked. And so it is with the calls that only look.
 */
public final class RefusedTest {
    private static final int[] FAR_OFF = {Integer.MIN_VALUE, -1, Integer.MAX_VALUE};
    private static final int[] NO_FLOORS = {Integer.MIN_VALUE, -1, 10, Integer.MAX_VALUE};

    private record Refused(String call, Class<? extends RuntimeException> due, Function<LiftDesk, Object> run) {
    }

    private final Scene scene;
    private final List<Refused> refused = new ArrayList<>();
    private final Map<String, List<String>> untouched = new HashMap<>();

    private RefusedTest(Scene scene) {
        this.scene = scene;
    }

    public static void main(String[] args) {
        for (Scene scene : Scene.all()) {
            RefusedTest test = new RefusedTest(scene);
            test.sceneIsAsTold();
            test.building();
            test.badges();
            test.calls();
            test.riders();
            test.lifts();
            test.ticks();
            test.inThisScene();
            test.lookingChangesNothing();
            for (Refused call : test.refused) {
                test.changesNothing(call);
            }
        }
        Check.end();
    }

    private void sceneIsAsTold() {
        LiftDesk desk = scene.make();
        StringBuilder services = new StringBuilder();
        for (int lift = 0; lift < scene.lifts(); lift++) {
            services.append(desk.service(lift));
        }
        Check.due(scene.name() + ": services", services.toString(), scene.services());
        StringBuilder states = new StringBuilder();
        for (int rider = 0; rider < scene.riders(); rider++) {
            states.append(desk.state(rider));
        }
        Check.due(scene.name() + ": states", states.toString(), scene.states());
    }

    private void refuses(String call, Class<? extends RuntimeException> due, Function<LiftDesk, Object> run) {
        refused.add(new Refused(call, due, run));
    }

    private void building() {
        for (int capacity : new int[] {Integer.MIN_VALUE, -1, 0, 5, Integer.MAX_VALUE}) {
            refuses("addLift(" + capacity + ")", Check.ARGUMENT, desk -> desk.addLift(capacity));
        }
        for (int floor : new int[] {Integer.MIN_VALUE, -1, 0, 10, Integer.MAX_VALUE}) {
            refuses("setTenant(" + floor + ", 2)", Check.INDEX, desk -> desk.setTenant(floor, 2));
            refuses("setTenant(" + floor + ", 4)", Check.INDEX, desk -> desk.setTenant(floor, 4));
            refuses("setHours(" + floor + ", 10, 20)", Check.INDEX, desk -> desk.setHours(floor, 10, 20));
            refuses("setHours(" + floor + ", 20, 20)", Check.INDEX, desk -> desk.setHours(floor, 20, 20));
        }
        for (int tenant : new int[] {Integer.MIN_VALUE, -2, 4, Integer.MAX_VALUE}) {
            refuses("setTenant(5, " + tenant + ")", Check.ARGUMENT, desk -> desk.setTenant(5, tenant));
            refuses("setTenant(4, " + tenant + ")", Check.ARGUMENT, desk -> desk.setTenant(4, tenant));
        }
        int[][] wrong = {{-1, 30}, {-1, 100}, {100, 100}, {100, 101}, {99, 101}, {0, 101}, {50, 50}, {0, 0}, {40, 30},
            {30, -1}, {Integer.MIN_VALUE, 50}, {50, Integer.MAX_VALUE}, {Integer.MAX_VALUE, Integer.MIN_VALUE}};
        for (int[] hours : wrong) {
            for (int floor : new int[] {1, 4, 5}) {
                refuses("setHours(" + floor + ", " + hours[0] + ", " + hours[1] + ")", Check.ARGUMENT,
                    desk -> desk.setHours(floor, hours[0], hours[1]));
            }
        }
        if (scene.lifts() == 3) {
            refuses("addLift(1)", Check.STATE, desk -> desk.addLift(1));
            refuses("addLift(4)", Check.STATE, desk -> desk.addLift(4));
        }
    }

    private void badges() {
        for (int tenant : new int[] {Integer.MIN_VALUE, -1, 4, Integer.MAX_VALUE}) {
            refuses("addBadge(" + tenant + ")", Check.ARGUMENT, desk -> desk.addBadge(tenant));
        }
        if (scene.badges() == 8) {
            refuses("addBadge(0)", Check.STATE, desk -> desk.addBadge(0));
            refuses("addBadge(3)", Check.STATE, desk -> desk.addBadge(3));
        }
        for (int badge : without(scene.badges())) {
            refuses("setRevoked(" + badge + ", true)", Check.INDEX, desk -> desk.setRevoked(badge, true));
            refuses("setRevoked(" + badge + ", false)", Check.INDEX, desk -> desk.setRevoked(badge, false));
            refuses("reason(" + badge + ", 0)", Check.INDEX, desk -> desk.reason(badge, 0));
            refuses("reason(" + badge + ", 10)", Check.INDEX, desk -> desk.reason(badge, 10));
        }
        for (int floor : NO_FLOORS) {
            refuses("reason(0, " + floor + ")", Check.INDEX, desk -> desk.reason(0, floor));
        }
    }

    /** In every scene with badges the floor 5 is of the tenant 1, and the badge 0 is of another. */
    private void calls() {
        for (int badge : without(scene.badges())) {
            refuses("call(" + badge + ", 0, 4)", Check.INDEX, desk -> desk.call(badge, 0, 4));
            refuses("call(" + badge + ", 4, 4)", Check.INDEX, desk -> desk.call(badge, 4, 4));
        }
        for (int floor : NO_FLOORS) {
            refuses("call(0, " + floor + ", 4)", Check.INDEX, desk -> desk.call(0, floor, 4));
            refuses("call(0, " + floor + ", 5)", Check.INDEX, desk -> desk.call(0, floor, 5));
            refuses("call(0, 4, " + floor + ")", Check.INDEX, desk -> desk.call(0, 4, floor));
            refuses("call(0, " + floor + ", " + floor + ")", Check.INDEX, desk -> desk.call(0, floor, floor));
        }
        if (scene.badges() > 0) {
            refuses("call(0, 4, 4)", Check.ARGUMENT, desk -> desk.call(0, 4, 4));
            refuses("call(0, 5, 5)", Check.ARGUMENT, desk -> desk.call(0, 5, 5));
            refuses("call(0, 0, 0)", Check.ARGUMENT, desk -> desk.call(0, 0, 0));
            refuses("call(2, 4, 4)", Check.ARGUMENT, desk -> desk.call(2, 4, 4));
            refuses("call(0, 0, 5)", Check.UNSUPPORTED, desk -> desk.call(0, 0, 5));
            refuses("call(2, 9, 5)", Check.UNSUPPORTED, desk -> desk.call(2, 9, 5));
        }
        if (scene.badges() == 8) {
            refuses("call(6, 0, 4), revoked", Check.UNSUPPORTED, desk -> desk.call(6, 0, 4));
        }
    }

    private void riders() {
        for (int rider : without(scene.riders())) {
            refuses("state(" + rider + ")", Check.INDEX, desk -> desk.state(rider));
            refuses("floorOf(" + rider + ")", Check.INDEX, desk -> desk.floorOf(rider));
            refuses("aim(" + rider + ")", Check.INDEX, desk -> desk.aim(rider));
            refuses("liftOf(" + rider + ")", Check.INDEX, desk -> desk.liftOf(rider));
            refuses("waited(" + rider + ")", Check.INDEX, desk -> desk.waited(rider));
            refuses("waitedByLog(" + rider + ")", Check.INDEX, desk -> desk.waitedByLog(rider));
        }
        if (scene.riders() == 0) {
            refuses("doneShare()", Check.ARITHMETIC, LiftDesk::doneShare);
            refuses("meanWait()", Check.ARITHMETIC, LiftDesk::meanWait);
        }
    }

    private void lifts() {
        for (int lift : without(scene.lifts())) {
            refuses("callOff(" + lift + ")", Check.INDEX, desk -> desk.callOff(lift));
            refuses("service(" + lift + ")", Check.INDEX, desk -> desk.service(lift));
            refuses("floorOfLift(" + lift + ")", Check.INDEX, desk -> desk.floorOfLift(lift));
            refuses("isUp(" + lift + ")", Check.INDEX, desk -> desk.isUp(lift));
            refuses("aboard(" + lift + ")", Check.INDEX, desk -> desk.aboard(lift));
            refuses("score(" + lift + ", 0)", Check.INDEX, desk -> desk.score(lift, 0));
            refuses("score(" + lift + ", 10)", Check.INDEX, desk -> desk.score(lift, 10));
        }
        for (int floor : NO_FLOORS) {
            refuses("score(0, " + floor + ")", Check.INDEX, desk -> desk.score(0, floor));
        }
    }

    private void ticks() {
        for (int ticks : new int[] {Integer.MIN_VALUE, -1, 0, 101, Integer.MAX_VALUE}) {
            refuses("pass(" + ticks + ")", Check.ARGUMENT, desk -> desk.pass(ticks));
        }
        for (int floor : NO_FLOORS) {
            refuses("alarm(" + floor + ")", Check.INDEX, desk -> desk.alarm(floor));
        }
    }

    /** What is refused because of what is under way. */
    private void inThisScene() {
        switch (scene.name()) {
            case "empty" -> nobodyIsThere();
            case "some" -> {
                refusesToCall(0, 4, 0);
                refusesToCall(1, 3, 0);
                refuses("turn()", Check.NO_ELEMENT, LiftDesk::turn);
            }
            case "full" -> {
                nobodyIsThere();
                refuses("call(0, 0, 3), out of hours", Check.UNSUPPORTED, desk -> desk.call(0, 0, 3));
            }
            case "busy" -> {
                refusesToCall(0, 4, 0);
                refusesToCall(2, 8, 0);
                refusesToCallOff(0);
                refusesToCallOff(2);
                refuses("liftOf(0), done", Check.NO_ELEMENT, desk -> desk.liftOf(0));
                refuses("turn()", Check.NO_ELEMENT, LiftDesk::turn);
            }
            case "stopped" -> {
                refusesToCall(0, 3, 0);
                for (int lift = 0; lift < 3; lift++) {
                    refusesToCallOff(lift);
                }
                refuses("liftOf(0), none", Check.NO_ELEMENT, desk -> desk.liftOf(0));
            }
            case "alarmed" -> {
                thereIsAnAlarm();
                refuses("liftOf(1), none", Check.NO_ELEMENT, desk -> desk.liftOf(1));
                refuses("liftOf(3), done", Check.NO_ELEMENT, desk -> desk.liftOf(3));
            }
            case "deserted" -> {
                thereIsAnAlarm();
                refuses("liftOf(0), done", Check.NO_ELEMENT, desk -> desk.liftOf(0));
                refuses("turn()", Check.NO_ELEMENT, LiftDesk::turn);
            }
            default -> {
                for (int badge = 0; badge < 8; badge++) {
                    refusesToCall(badge, 1, 0);
                }
            }
        }
    }

    private void nobodyIsThere() {
        for (int floor = 0; floor < 10; floor++) {
            int of = floor;
            refuses("alarm(" + floor + ")", Check.STATE, desk -> desk.alarm(of));
        }
        refuses("turn()", Check.NO_ELEMENT, LiftDesk::turn);
    }

    private void thereIsAnAlarm() {
        for (int badge = 0; badge < 8; badge++) {
            refusesToCall(badge, 4, 0);
        }
        for (int lift = 0; lift < 3; lift++) {
            refusesToCallOff(lift);
        }
        for (int floor = 0; floor < 10; floor++) {
            int of = floor;
            refuses("alarm(" + floor + "), another", Check.STATE, desk -> desk.alarm(of));
        }
    }

    private void refusesToCall(int badge, int from, int to) {
        refuses("call(" + badge + ", " + from + ", " + to + ")", Check.STATE, desk -> desk.call(badge, from, to));
    }

    private void refusesToCallOff(int lift) {
        refuses("callOff(" + lift + ")", Check.STATE, desk -> desk.callOff(lift));
    }

    /** Numbers that nothing has, of things that are numbered from 0 to below the count. */
    private static int[] without(int count) {
        return new int[] {FAR_OFF[0], FAR_OFF[1], count, FAR_OFF[2]};
    }

    private void changesNothing(Refused call) {
        for (Map.Entry<String, Function<LiftDesk, List<String>>> later : afterwards().entrySet()) {
            LiftDesk desk = scene.make();
            String what = scene.name() + ", " + call.call;
            Check.throwsIt(what, call.due, () -> call.run.apply(desk));
            same(what + ", " + later.getKey(), later.getValue().apply(desk), untouched(later.getKey()));
        }
    }

    private void lookingChangesNothing() {
        LiftDesk desk = scene.make();
        Look.at(desk);
        same(scene.name() + ", looked at", filled(desk), untouched("filled"));
    }

    private List<String> untouched(String later) {
        return untouched.computeIfAbsent(later, name -> afterwards().get(name).apply(scene.make()));
    }

    private static void same(String what, List<String> got, List<String> want) {
        for (int i = 0; i < want.size(); i++) {
            Check.due(what + ": " + i, got.get(i), want.get(i));
        }
        Check.due(what + ": answers", got.size(), want.size());
    }

    private static Map<String, Function<LiftDesk, List<String>>> afterwards() {
        Map<String, Function<LiftDesk, List<String>>> ways = new LinkedHashMap<>();
        ways.put("at once", Look::at);
        ways.put("a tick later", RefusedTest::aTickLater);
        ways.put("passing", RefusedTest::passing);
        ways.put("emptied", RefusedTest::emptied);
        ways.put("filled", RefusedTest::filled);
        return ways;
    }

    private static List<String> aTickLater(LiftDesk desk) {
        List<String> answers = new ArrayList<>();
        Look.ask(answers, "pass(1)", () -> desk.pass(1));
        answers.addAll(Look.at(desk));
        return answers;
    }

    private static List<String> passing(LiftDesk desk) {
        List<String> answers = new ArrayList<>();
        for (int i = 0; i < 8; i++) {
            Look.ask(answers, "pass(7)", () -> desk.pass(7));
            Look.liftsWithoutScores(desk, answers);
            Look.figures(desk, answers);
        }
        Look.riders(desk, answers);
        return answers;
    }

    /** Takes away what was set, with what it was before, and the time goes round the hours. */
    private static List<String> emptied(LiftDesk desk) {
        List<String> answers = new ArrayList<>();
        Look.ask(answers, "addBadge(2)", () -> desk.addBadge(2));
        for (int i = 0; i <= 8; i++) {
            int badge = i;
            Look.ask(answers, "setRevoked(" + badge + ", false)", () -> desk.setRevoked(badge, false));
        }
        for (int i = 0; i <= 9; i++) {
            int floor = i;
            Look.ask(answers, "setTenant(" + floor + ", -1)", () -> desk.setTenant(floor, -1));
        }
        for (int i = 0; i < 34; i++) {
            for (int j = 0; j <= 9; j++) {
                int floor = j;
                Look.ask(answers, "reason(0, " + floor + ")", () -> desk.reason(0, floor));
            }
            Look.ask(answers, "pass(3)", () -> desk.pass(3));
        }
        return answers;
    }

    /** Adds as many lifts, badges and riders as there is room for. */
    private static List<String> filled(LiftDesk desk) {
        List<String> answers = new ArrayList<>();
        for (int i = 0; i <= 3; i++) {
            Look.ask(answers, "addLift(1)", () -> desk.addLift(1));
        }
        for (int i = 0; i <= 8; i++) {
            Look.ask(answers, "addBadge(1)", () -> desk.addBadge(1));
        }
        for (int i = 0; i <= 8; i++) {
            int badge = i;
            Look.ask(answers, "call(" + badge + ", 8, 0)", () -> desk.call(badge, 8, 0));
        }
        Look.liftsWithoutScores(desk, answers);
        Look.ask(answers, "pass(10)", () -> desk.pass(10));
        Look.liftsWithoutScores(desk, answers);
        Look.figures(desk, answers);
        return answers;
    }
}
