import java.io.IOException;
import java.nio.file.Files;
import java.nio.file.Path;
import java.util.List;
import java.util.TreeSet;
import java.util.stream.Collectors;

/** What README.md says holds: its example answers as its comments tell, and its tables list the calls of the class. */
public final class ReadmeTest {
    private static final String FENCE = "```";

    private record Row(String text, Check.Call call) {
    }

    public static void main(String[] args) throws IOException {
        List<String> lines = Files.readAllLines(Path.of("README.md"));
        example(exampleIn(lines));
        tables(lines);
        Check.end();
    }

    private static List<String> exampleIn(List<String> lines) {
        List<String> rest = lines.subList(lines.indexOf(FENCE + "java") + 1, lines.size());
        return rest.subList(0, rest.indexOf(FENCE));
    }

    private static void example(List<String> lines) {
        Check.due("the example's first line", lines.get(0), "LiftDesk desk = new LiftDesk();");
        List<Row> rows = rowsOfTheExample(new LiftDesk());
        Check.due("the number of the example's calls", lines.size() - 1, rows.size());
        for (int i = 0; i < rows.size(); i++) {
            String answer = String.valueOf(Check.answerOrThrown(rows.get(i).call())).replace("throws.", "throws ");
            // What stands behind the colon of a comment is for the reader alone.
            String told = lines.get(i + 1).replaceFirst(" : .*", "").replaceFirst(" +// ", " // ");
            Check.due("the example's call " + i, told, rows.get(i).text() + " // " + answer);
        }
    }

    private static List<Row> rowsOfTheExample(LiftDesk desk) {
        return List.of(
            new Row("desk.addLift(2);", () -> desk.addLift(2)),
            new Row("desk.addBadge(1);", () -> desk.addBadge(1)),
            new Row("desk.setTenant(7, 1);", () -> desk.setTenant(7, 1)),
            new Row("desk.reason(0, 7);", () -> desk.reason(0, 7)),
            new Row("desk.call(0, 2, 7);", () -> desk.call(0, 2, 7)),
            new Row("desk.liftOf(0);", () -> desk.liftOf(0)),
            new Row("desk.pass(3);", () -> desk.pass(3)),
            new Row("desk.state(0);", () -> desk.state(0)),
            new Row("desk.pass(6);", () -> desk.pass(6)),
            new Row("desk.state(0);", () -> desk.state(0)),
            new Row("desk.floorOf(0);", () -> desk.floorOf(0)),
            new Row("desk.waited(0);", () -> desk.waited(0)),
            new Row("desk.liftOf(0);", () -> desk.liftOf(0)));
    }

    /** The rows "| `type name(type parameter)` | what it does | exceptions |" are the methods of the class. */
    private static void tables(List<String> lines) {
        TreeSet<String> told = lines.stream().filter(line -> line.startsWith("| `")).map(ReadmeTest::textOf)
            .collect(Collectors.toCollection(TreeSet::new));
        told.add("LiftDesk()");
        Check.due("the tables of the calls", String.join("\n", told), String.join("\n", Face.shown()));
    }

    private static String textOf(String row) {
        String[] cells = row.split("\\|");
        String call = cells[1].trim().replace("`", "").replaceAll("(int|boolean) \\w+(?=[,)])", "$1");
        return (call + " " + cells[3].trim().replace(",", "")).trim();
    }
}
