import java.util.Random;
import java.util.function.Function;

/** Long runs of calls, in which LiftDesk and the model have to answer, or throw, the same. */
public final class ModelTest {
    private static final int RUNS = 1000;
    private static final int CALLS = 512;
    private static final int[] ODD = {Integer.MIN_VALUE, -2, -1, 10, 30, 101, Integer.MAX_VALUE};

    private final Random random;
    private final LiftDesk desk = new LiftDesk();
    private final Model model = new Model();
    private final int run;
    /** How seldom an argument is taken from anywhere: some runs go wrong often, some hardly ever. */
    private final int oddness;

    private ModelTest(int run) {
        this.run = run;
        this.random = new Random(run);
        this.oddness = run % 3 == 0 ? 8 : 200;
    }

    public static void main(String[] args) {
        for (int run = 0; run < RUNS && Check.wrongs() == 0; run++) {
            new ModelTest(run).callMany();
        }
        Check.end();
    }

    private void callMany() {
        int setUp = random.nextInt(24);
        for (int call = 0; call < CALLS && Check.wrongs() == 0; call++) {
            if (call < setUp) {
                build(call);
            } else if (random.nextInt(3) == 0) {
                change(call);
            } else {
                look(call);
            }
        }
    }

    private int upTo(int most) {
        if (random.nextInt(oddness) == 0) {
            return random.nextBoolean() ? ODD[random.nextInt(ODD.length)] : random.nextInt();
        }
        return random.nextInt(most + 1);
    }

    private void same(int call, String what, Check.Call ofDesk, Check.Call ofModel) {
        Object want = Check.answerOrThrown(ofModel);
        Check.due("run " + run + ", call " + call + ": " + what, Check.answerOrThrown(ofDesk), want);
    }

    private void same(int call, String what, int x, Function<Integer, Object> ofDesk,
            Function<Integer, Object> ofModel) {
        same(call, what + "(" + x + ")", () -> ofDesk.apply(x), () -> ofModel.apply(x));
    }

    private void build(int call) {
        switch (random.nextInt(6)) {
            case 0 -> same(call, "addLift", upTo(3) + 1, desk::addLift, model::addLift);
            case 1, 2, 3 -> same(call, "addBadge", upTo(3), desk::addBadge, model::addBadge);
            case 4 -> setTenant(call);
            default -> setHours(call);
        }
    }

    private void setTenant(int call) {
        int floor = upTo(8) + 1;
        int tenant = upTo(6) - 3 < 0 ? -1 : upTo(3);
        same(call, "setTenant(" + floor + ", " + tenant + ")",
            () -> desk.setTenant(floor, tenant), () -> model.setTenant(floor, tenant));
    }

    private void setHours(int call) {
        int floor = upTo(8) + 1;
        int first = upTo(60);
        int end = random.nextBoolean() ? 100 : first + upTo(60);
        same(call, "setHours(" + floor + ", " + first + ", " + end + ")",
            () -> desk.setHours(floor, first, end), () -> model.setHours(floor, first, end));
    }

    private void change(int call) {
        switch (random.nextInt(20)) {
            case 0 -> build(call);
            case 1 -> setTenant(call);
            case 2 -> setHours(call);
            case 3, 4 -> setRevoked(call);
            case 5 -> same(call, "callOff", upTo(2), desk::callOff, model::callOff);
            case 6 -> {
                if (random.nextInt(4) == 0) {
                    same(call, "alarm", upTo(9), desk::alarm, model::alarm);
                }
            }
            case 7 -> same(call, "pass", upTo(random.nextBoolean() ? 40 : 100), desk::pass, model::pass);
            case 8, 9, 10, 11, 12, 13 -> same(call, "pass", upTo(4) + 1, desk::pass, model::pass);
            default -> call(call);
        }
    }

    private void setRevoked(int call) {
        int badge = upTo(7);
        boolean isRevoked = random.nextInt(3) == 0;
        same(call, "setRevoked(" + badge + ", " + isRevoked + ")",
            () -> desk.setRevoked(badge, isRevoked), () -> model.setRevoked(badge, isRevoked));
    }

    private void call(int call) {
        int badge = upTo(7);
        int from = upTo(9);
        int to = upTo(9);
        same(call, "call(" + badge + ", " + from + ", " + to + ")",
            () -> desk.call(badge, from, to), () -> model.call(badge, from, to));
    }

    private void look(int call) {
        int rider = upTo(29);
        switch (random.nextInt(23)) {
            case 0 -> lookBoth(call, "reason", upTo(7), upTo(9));
            case 1, 2 -> same(call, "state", rider, desk::state, model::state);
            case 3, 4 -> same(call, "floorOf", rider, desk::floorOf, model::floorOf);
            case 5 -> same(call, "aim", rider, desk::aim, model::aim);
            case 6, 7 -> same(call, "liftOf", rider, desk::liftOf, model::liftOf);
            case 8 -> same(call, "waited", rider, desk::waited, model::waited);
            case 9 -> same(call, "waitedByLog", rider, desk::waitedByLog, model::waited);
            case 10 -> same(call, "entries", desk::entries, model::entries);
            case 11 -> same(call, "service", upTo(2), desk::service, model::service);
            case 12 -> same(call, "floorOfLift", upTo(2), desk::floorOfLift, model::floorOfLift);
            case 13 -> same(call, "isUp", upTo(2), desk::isUp, model::isUp);
            case 14 -> same(call, "aboard", upTo(2), desk::aboard, model::aboard);
            case 15 -> lookBoth(call, "score", upTo(2), upTo(9));
            case 16 -> same(call, "time", desk::time, model::time);
            case 17 -> same(call, "isAlarm", desk::isAlarm, model::isAlarm);
            case 18 -> same(call, "turn", desk::turn, model::turn);
            case 19 -> same(call, "opened", desk::opened, model::opened);
            case 20 -> same(call, "refused", desk::refused, model::refused);
            case 21 -> same(call, "doneShare", desk::doneShare, model::doneShare);
            default -> same(call, "meanWait", desk::meanWait, model::meanWait);
        }
    }

    private void lookBoth(int call, String what, int x, int floor) {
        String text = what + "(" + x + ", " + floor + ")";
        if (what.equals("score")) {
            same(call, text, () -> desk.score(x, floor), () -> model.score(x, floor));
        } else {
            same(call, text, () -> desk.reason(x, floor), () -> model.reason(x, floor));
        }
    }
}
