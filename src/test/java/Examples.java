import java.io.IOException;
import java.lang.invoke.MethodHandles;
import java.nio.file.Files;
import java.nio.file.Path;
import java.util.ArrayList;
import java.util.List;
import java.util.regex.Matcher;
import java.util.regex.Pattern;
import javax.tools.ToolProvider;

/**
 * The examples of README.md as one program. A block that begins with static holds methods; each
 * other one is a run of calls on an object of its own, with the answers behind "// -> ".
 */
final class Examples {
    /** A call that is shown; the answer is as it is written, and empty if none is told. */
    record Shown(Readme.Line line, String call, String answer) {
        /** The method of the face that is called, empty if it is not one. */
        String method() {
            Matcher matcher = OF_THE_FACE.matcher(call);
            return matcher.lookingAt() ? matcher.group(1) : "";
        }
    }

    /** What the program is when it has been compiled. */
    interface Program {
        void run(Checks checks);
    }

    private static final Pattern OF_THE_FACE = Pattern.compile("desk\\.(\\w+)\\(");
    private static final Pattern CALL = Pattern.compile("(\\w.*\\));(?: +// -> (.+))?");
    private static final Pattern THROWS = Pattern.compile("throws (\\w+)");
    private static final String MAKING = "PolynomialDesk desk = new PolynomialDesk();";
    private static final String NAME = "ReadmeExamples";

    private final List<Shown> shown = new ArrayList<>();
    private final StringBuilder methods = new StringBuilder();
    private final StringBuilder body = new StringBuilder();

    Examples(Readme readme) {
        for (List<Readme.Line> block : readme.javaBlocks()) {
            if (block.get(0).text().startsWith("static ")) {
                block.forEach(line -> methods.append(line.text()).append('\n'));
            } else {
                body.append("{\n");
                block.forEach(this::takeLine);
                body.append("}\n");
            }
        }
    }

    List<Shown> shown() {
        return shown;
    }

    private void takeLine(Readme.Line line) {
        String text = line.text();
        Matcher call = CALL.matcher(text);
        if (text.equals(MAKING)) {
            body.append(text).append('\n');
        } else if (call.matches()) {
            takeCall(new Shown(line, call.group(1), call.group(2) == null ? "" : call.group(2)));
        } else if (!text.isEmpty() && !text.startsWith("// ")) {
            throw new AssertionError(line.where() + " is no call, no remark and makes no object: " + text);
        }
    }

    private void takeCall(Shown next) {
        shown.add(next);
        Matcher throwing = THROWS.matcher(next.answer());
        String got = "Examples.answer(() -> " + next.call() + ")";
        String want = "Examples.answer(() -> " + next.answer() + ")";
        if (throwing.matches()) {
            // As a void call, since that suits those with an answer too.
            got = "Outcome.ofVoid(() -> " + next.call() + ")";
            want = "\"throws." + throwing.group(1) + "\"";
        } else if (next.answer().isEmpty()) {
            got = "Outcome.ofVoid(() -> " + next.call() + ")";
            want = "Outcome.DONE";
        }
        body.append("checks.due(\"").append(next.line().where()).append("\", ");
        body.append(got).append(", ").append(want).append(");\n");
    }

    /** A char counts as the byte that it is, since a call tells bytes as int. */
    static Object answer(Outcome.Call call) {
        Object answer = Outcome.of(call);
        return answer instanceof Character c ? Integer.valueOf(c) : answer;
    }

    private String source() {
        return "final class " + NAME + " implements Examples.Program {\n"
            + methods
            + "public void run(Checks checks) {\n" + body + "}\n}\n";
    }

    void run(Checks checks) throws IOException, ReflectiveOperationException {
        Path directory = Files.createTempDirectory("readme");
        Path source = directory.resolve(NAME + ".java");
        Path compiled = directory.resolve(NAME + ".class");
        try {
            Files.writeString(source, source());
            String classes = System.getProperty("java.class.path");
            String[] arguments = {"-cp", classes, "-d", directory.toString(), source.toString()};
            if (ToolProvider.getSystemJavaCompiler().run(null, null, null, arguments) != 0) {
                throw new AssertionError("the examples of README.md can't be compiled");
            }
            // Into this package, whose classes the program uses.
            Class<?> program = MethodHandles.lookup().defineClass(Files.readAllBytes(compiled));
            ((Program) program.getDeclaredConstructor().newInstance()).run(checks);
        } finally {
            Files.deleteIfExists(source);
            Files.deleteIfExists(compiled);
            Files.deleteIfExists(directory);
        }
    }
}
