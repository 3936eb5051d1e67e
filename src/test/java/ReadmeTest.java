import java.lang.reflect.Method;
import java.lang.reflect.Modifier;
import java.nio.file.DirectoryStream;
import java.nio.file.Files;
import java.nio.file.Path;
import java.util.ArrayList;
import java.util.Arrays;
import java.util.List;
import java.util.Set;
import java.util.TreeSet;
import java.util.regex.Matcher;
import java.util.regex.Pattern;
import java.util.stream.Collectors;

/** What README.md shows of the class's use: the calls with their answers, and the tables. */
public final class ReadmeTest {
    private static final Pattern EXCEPTION = Pattern.compile("`(\\w+Exception)`: ");

    private final Checks checks = new Checks();
    private final Readme readme;
    private final Examples examples;

    private ReadmeTest() throws Exception {
        readme = new Readme();
        examples = new Examples(readme);
    }

    public static void main(String[] args) throws Exception {
        ReadmeTest test = new ReadmeTest();
        test.examples.run(test.checks);
        test.answersAreTold();
        test.everyCallIsShown();
        test.everyExceptionIsShown();
        test.tableOfCalls();
        test.tableOfHighest();
        test.tableOfTexts();
        test.tableOfFaults();
        test.testsAreNamed();
        test.checks.end();
    }

    private static List<Method> face() {
        List<Method> face = new ArrayList<>();
        for (Method method : PolynomialDesk.class.getDeclaredMethods()) {
            if (Modifier.isPublic(method.getModifiers())) {
                face.add(method);
            }
        }
        return face;
    }

    /** A call with an answer must be shown with it, and a void one can't be; the face alone has void ones. */
    private void answersAreTold() {
        Set<String> voids = new TreeSet<>();
        for (Method method : face()) {
            if (method.getReturnType() == void.class) {
                voids.add(method.getName());
            }
        }
        for (Examples.Shown next : examples.shown()) {
            if (!next.answer().startsWith("throws ")) {
                boolean isVoid = voids.contains(next.method());
                checks.due(next.line().where() + " tells no answer", next.answer().isEmpty(), isVoid);
            }
        }
    }

    private void everyCallIsShown() {
        for (Method method : face()) {
            boolean isShown = examples.shown().stream()
                .anyMatch(next -> next.method().equals(method.getName()) && !next.answer().startsWith("throws "));
            checks.due("README.md shows " + method.getName(), isShown, true);
        }
    }

    private void everyExceptionIsShown() {
        for (Method method : face()) {
            Set<String> shown = new TreeSet<>();
            for (Examples.Shown next : examples.shown()) {
                if (next.method().equals(method.getName()) && next.answer().startsWith("throws ")) {
                    shown.add(next.answer().substring("throws ".length()));
                }
            }
            checks.due("exceptions that README.md shows of " + method.getName(), shown, exceptions(method));
        }
    }

    private static Set<String> exceptions(Method method) {
        return Arrays.stream(method.getExceptionTypes())
            .map(Class::getSimpleName)
            .collect(Collectors.toCollection(TreeSet::new));
    }

    /** A method as a row of the table tells it, but for the names of its parameters. */
    private static String told(Method method) {
        String types = Arrays.stream(method.getParameterTypes()).map(Class::getSimpleName).collect(Collectors.joining(", "));
        return method.getReturnType().getSimpleName() + " " + method.getName() + "(" + types + ") " + exceptions(method);
    }

    private void tableOfCalls() {
        Set<String> told = new TreeSet<>();
        for (Readme.Row row : readme.table("call", "what it is for", "what it throws, and when")) {
            Set<String> exceptions = new TreeSet<>();
            Matcher matcher = EXCEPTION.matcher(row.cell(2));
            while (matcher.find()) {
                exceptions.add(matcher.group(1));
            }
            boolean saysNothing = row.cell(2).equals("nothing");
            checks.due(row.line().where() + " says 'nothing'", saysNothing, exceptions.isEmpty());
            told.add(row.code(0).replaceAll("(int|long) \\w+([,)])", "$1$2") + " " + exceptions);
        }
        Set<String> face = face().stream().map(ReadmeTest::told).collect(Collectors.toCollection(TreeSet::new));
        checks.due("README.md's table of calls", told, face);
    }

    private void tableOfHighest() {
        Set<Integer> told = new TreeSet<>();
        for (Readme.Row row : readme.table("N", "HIGHEST")) {
            int n = Integer.parseInt(row.cell(0));
            int highest = Integer.parseInt(row.cell(1));
            told.add(n);
            Desk desk = Desk.with(7, n, 0, "x", "x^" + highest, "1");
            checks.due(row.line().where() + " up to it", desk.multiply(1, 2, 3), Outcome.DONE);
            checks.due(row.line().where() + " beyond it", desk.multiply(1, 0, 3), Outcome.STATE);
        }
        checks.due("N in README.md's table of HIGHEST", told, Set.of(1, 2, 3, 4));
    }

    private void tableOfTexts() {
        for (Readme.Row row : readme.table("text", "printed", "why")) {
            Desk desk = new Desk();
            desk.readText(0, row.code(0));
            checks.due(row.line().where() + " fault@place", desk.verdict(), "0@-1");
            checks.due(row.line().where() + " printed", desk.printed(0), row.code(1));
        }
    }

    private void tableOfFaults() {
        Set<String> faults = new TreeSet<>();
        for (Readme.Row row : readme.table("text", "fault(0)", "fault(1)", "why")) {
            Desk desk = new Desk();
            checks.due(row.line().where() + " read", desk.readText(0, row.code(0)), Outcome.ARGUMENT);
            checks.due(row.line().where() + " fault@place", desk.verdict(), row.cell(1) + "@" + row.cell(2));
            faults.add(row.cell(1));
        }
        checks.due("faults in README.md's table", faults, Set.of("1", "2", "3", "4"));
    }

    private void testsAreNamed() throws Exception {
        try (DirectoryStream<Path> tests = Files.newDirectoryStream(Path.of("src/test/java"), "*Test.java")) {
            for (Path test : tests) {
                String name = test.getFileName().toString().replace(".java", "");
                checks.due("README.md names " + name, readme.names(name), true);
            }
        }
    }
}
