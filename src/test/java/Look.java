import java.util.ArrayList;
import java.util.List;

/** What a desk answers to the calls that only look: a line for each, so that two desks can be compared. */
final class Look {
    private Look() {
    }

    /** All that can be asked at one time, one number beyond each limit too: 340 calls at the most. */
    static List<String> at(LiftDesk desk) {
        List<String> answers = new ArrayList<>();
        badges(desk, answers);
        lifts(desk, answers);
        riders(desk, answers);
        figures(desk, answers);
        return answers;
    }

    static void ask(List<String> answers, String what, Check.Call call) {
        answers.add(what + ": " + Check.answerOrThrown(call));
    }

    static void badges(LiftDesk desk, List<String> answers) {
        for (int i = 0; i <= 8; i++) {
            int badge = i;
            for (int j = 0; j <= 9; j++) {
                int floor = j;
                ask(answers, "reason(" + badge + ", " + floor + ")", () -> desk.reason(badge, floor));
            }
        }
    }

    static void lifts(LiftDesk desk, List<String> answers) {
        liftsWithoutScores(desk, answers);
        for (int i = 0; i <= 3; i++) {
            int lift = i;
            for (int j = 0; j <= 9; j++) {
                int floor = j;
                ask(answers, "score(" + lift + ", " + floor + ")", () -> desk.score(lift, floor));
            }
        }
    }

    static void liftsWithoutScores(LiftDesk desk, List<String> answers) {
        for (int i = 0; i <= 3; i++) {
            int lift = i;
            ask(answers, "service(" + lift + ")", () -> desk.service(lift));
            ask(answers, "floorOfLift(" + lift + ")", () -> desk.floorOfLift(lift));
            ask(answers, "isUp(" + lift + ")", () -> desk.isUp(lift));
            ask(answers, "aboard(" + lift + ")", () -> desk.aboard(lift));
        }
    }

    static void riders(LiftDesk desk, List<String> answers) {
        for (int i = 0; i <= 30; i++) {
            int rider = i;
            ask(answers, "state(" + rider + ")", () -> desk.state(rider));
            ask(answers, "floorOf(" + rider + ")", () -> desk.floorOf(rider));
            ask(answers, "aim(" + rider + ")", () -> desk.aim(rider));
            ask(answers, "liftOf(" + rider + ")", () -> desk.liftOf(rider));
            ask(answers, "waited(" + rider + ")", () -> desk.waited(rider));
            ask(answers, "waitedByLog(" + rider + ")", () -> desk.waitedByLog(rider));
        }
    }

    static void figures(LiftDesk desk, List<String> answers) {
        ask(answers, "entries()", desk::entries);
        ask(answers, "time()", desk::time);
        ask(answers, "isAlarm()", desk::isAlarm);
        ask(answers, "turn()", desk::turn);
        ask(answers, "opened()", desk::opened);
        ask(answers, "refused()", desk::refused);
        ask(answers, "doneShare()", desk::doneShare);
        ask(answers, "meanWait()", desk::meanWait);
    }
}
