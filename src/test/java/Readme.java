import java.io.IOException;
import java.nio.file.Files;
import java.nio.file.Path;
import java.util.ArrayList;
import java.util.List;

/** README.md of the directory that the test runs in: its blocks of Java, and its tables. */
final class Readme {
    /** A line, and its number in the file. */
    record Line(int number, String text) {
        String where() {
            return "README.md line " + number;
        }
    }

    /** A row of a table, and the line that it is. */
    record Row(Line line, List<String> cells) {
        String cell(int i) {
            return cells.get(i);
        }

        /** What stands in a cell between the marks of code. */
        String code(int i) {
            if (!cell(i).matches("`[^`]+`")) {
                throw new AssertionError(line.where() + " has no code in cell " + i);
            }
            return cell(i).replace("`", "");
        }
    }

    private final List<Line> lines = new ArrayList<>();

    Readme() throws IOException {
        for (String text : Files.readAllLines(Path.of("README.md"))) {
            lines.add(new Line(lines.size() + 1, text));
        }
    }

    boolean names(String word) {
        return lines.stream().anyMatch(line -> line.text().contains("`" + word + "`"));
    }

    List<List<Line>> javaBlocks() {
        List<List<Line>> blocks = new ArrayList<>();
        List<Line> block = null;
        for (Line line : lines) {
            if (line.text().equals("```java")) {
                block = new ArrayList<>();
                blocks.add(block);
            } else if (line.text().startsWith("```")) {
                block = null;
            } else if (block != null) {
                block.add(line);
            }
        }
        return blocks;
    }

    /** The rows of the table that has this header; there must be some. */
    List<Row> table(String... header) {
        List<Row> rows = new ArrayList<>();
        boolean isInside = false;
        for (Line line : lines) {
            List<String> cells = cells(line.text());
            if (cells.equals(List.of(header))) {
                isInside = true;
            } else if (cells.size() != header.length) {
                isInside = false;
            } else if (isInside && !cells.get(0).equals("---")) {
                rows.add(new Row(line, cells));
            }
        }
        if (rows.isEmpty()) {
            throw new AssertionError("README.md has no table of " + List.of(header));
        }
        return rows;
    }

    private static List<String> cells(String text) {
        List<String> cells = new ArrayList<>();
        if (text.startsWith("|") && text.endsWith("|") && text.length() > 1) {
            for (String cell : text.substring(1, text.length() - 1).split("\\|")) {
                cells.add(cell.strip());
            }
        }
        return cells;
    }
}
