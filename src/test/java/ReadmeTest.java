import java.io.IOException;
import java.nio.file.DirectoryStream;
import java.nio.file.Files;
import java.nio.file.Path;
import java.util.ArrayList;
import java.util.List;
import java.util.TreeSet;

/** README.md: its examples are the very lines that run here, and its table has every test. It runs where README.md is. */
public final class ReadmeTest {
    private static final Path PAGE = Path.of("README.md");
    private static final Path TESTS = Path.of("src", "test", "java");

    private static final Checks checks = new Checks();

    public static void main(String[] args) throws IOException {
        unitOnARoute();
        textAndClaim();
        examplesAreThese();
        tableOfTests();
        checks.end();
    }

    private static void unitOnARoute() {
        // example
        ReturnGrades desk = new ReturnGrades();
        int unit = desk.receive(0, 1);              // 0: a unit of the product 0, for the reason 1
        for (int test = 0; test < 4; test++) {
            desk.test(unit, test, 6);
        }
        int grade = desk.unit(unit, 6);             // 1
        int route = desk.bestRoute(unit);           // 2: to sell it brings most
        int money = desk.send(unit, route);         // 70
        int left = desk.undo();                     // 5 saved states; the unit is in stock again
        // end
        checks.due("unit", unit, 0);
        checks.due("grade", grade, 1);
        checks.due("route", route, 2);
        checks.due("money", money, 70);
        checks.due("left", left, 5);
        checks.due("in stock again", desk.unit(unit, 7), 0);
    }

    private static void textAndClaim() {
        // example
        ReturnGrades texts = new ReturnGrades();
        for (char code : "p0r1:5555;p2r0".toCharArray()) {
            texts.append(code);
        }
        int error = texts.firstError();             // 14, the length: there is no error
        int units = texts.receiveAll();             // 2: one with four scores, one without
        texts.limit(0, 10);
        int amount = texts.claimable(0);            // 16
        int paid = texts.claim(0);                  // 0: it waits
        texts.limit(0, 20);
        int paidThen = texts.closePeriod();         // 16
        // end
        checks.due("error", error, 14);
        checks.due("units", units, 2);
        checks.due("amount", amount, 16);
        checks.due("paid", paid, 0);
        checks.due("paidThen", paidThen, 16);
        checks.due("the scores of the second", texts.unit(1, 2), ReturnGrades.NONE);
    }

    private static void examplesAreThese() throws IOException {
        List<String> told = between(PAGE, "```java", "```");
        List<String> run = between(TESTS.resolve("ReadmeTest.java"), "// example", "// end");
        checks.due("the examples", String.join("\n", told), String.join("\n", run));
    }

    /** The lines of a file that stand between two marks, without the indentation of the first mark. */
    private static List<String> between(Path file, String first, String last) throws IOException {
        List<String> found = new ArrayList<>();
        int indent = -1;
        for (String line : Files.readAllLines(file)) {
            if (indent < 0) {
                indent = line.strip().equals(first) ? line.indexOf(first) : -1;
            } else if (line.strip().equals(last)) {
                indent = -1;
            } else {
                found.add(line.substring(Math.min(indent, line.length())));
            }
        }
        return found;
    }

    private static void tableOfTests() throws IOException {
        TreeSet<String> told = new TreeSet<>();
        for (String line : Files.readAllLines(PAGE)) {
            if (line.matches("\\| \\w+Test \\|.*")) {
                told.add(line.substring(2, line.indexOf(' ', 2)));
            }
        }
        TreeSet<String> there = new TreeSet<>();
        try (DirectoryStream<Path> files = Files.newDirectoryStream(TESTS, "*Test.java")) {
            for (Path file : files) {
                there.add(file.getFileName().toString().replace(".java", ""));
            }
        }
        checks.due("the table", String.join(" ", told), String.join(" ", there));
    }
}
