import java.io.IOException;
import java.lang.reflect.Method;
import java.lang.reflect.Modifier;
import java.nio.file.Files;
import java.nio.file.Path;
import java.util.ArrayList;
import java.util.List;
import java.util.regex.Matcher;
import java.util.regex.Pattern;

/**
 * What README.md shows. run() looks whether it names every call of the class and shows one of each with its
 * answer; main writes the calls that it shows as a program that compares the answers, for .ci/run to compile and
 * run, so that what stands on the page is tested and no copy of it.
 */
public final class ReadmeTest {
    private static final Path PAGE = Path.of("README.md");
    private static final Pattern SHOWN = Pattern.compile(
        "((?:int|long) (\\w+) = )?(map\\.(\\w+)\\(.*?\\));\\s+// (-?\\d+|throws \\w+)(?:: .*)?");
    private static final Pattern CALL_AT_START = Pattern.compile("(?:(?:int|long) \\w+ = )?map\\..*");
    private static final Pattern ROW = Pattern.compile("\\| `(\\w+)\\((.*?)\\)` \\|.*");

    /** A line of a block of Java, by its number on the page. */
    private record Line(int number, String text) {
    }

    private ReadmeTest() {
    }

    static void run() {
        Due.topic("README.md");
        List<String> page;
        try {
            page = Files.readAllLines(PAGE);
        } catch (IOException e) {
            Due.fail("cannot read " + PAGE);
            return;
        }
        List<Line> lines = new ArrayList<>();
        for (List<Line> block : blocksOf(page)) {
            lines.addAll(block);
        }
        for (Line line : lines) {
            boolean open = CALL_AT_START.matcher(line.text()).matches() && !SHOWN.matcher(line.text()).matches();
            Due.holds("line " + line.number() + " gives an answer: " + line.text(), !open);
        }
        int methods = 0;
        for (Method method : CellEvents.class.getDeclaredMethods()) {
            if (Modifier.isPublic(method.getModifiers())) {
                methods++;
                Due.holds("a call of " + method.getName() + " is shown", isShown(lines, method.getName()));
                Due.same("numbers that " + method.getName() + " takes by its row", numbersByRow(page, method.getName()),
                    method.getParameterCount());
            }
        }
        Due.same("rows of calls", page.stream().filter(line -> ROW.matcher(line).matches()).count(), methods);
    }

    private static List<List<Line>> blocksOf(List<String> page) {
        List<List<Line>> blocks = new ArrayList<>();
        boolean inside = false;
        for (int index = 0; index < page.size(); index++) {
            String text = page.get(index);
            if (text.equals("```java")) {
                blocks.add(new ArrayList<>());
                inside = true;
            } else if (text.equals("```")) {
                inside = false;
            } else if (inside) {
                blocks.get(blocks.size() - 1).add(new Line(index + 1, text));
            }
        }
        return blocks;
    }

    private static boolean isShown(List<Line> lines, String method) {
        for (Line line : lines) {
            Matcher shown = SHOWN.matcher(line.text());
            if (shown.matches() && shown.group(4).equals(method)) {
                return true;
            }
        }
        return false;
    }

    private static int numbersByRow(List<String> page, String method) {
        for (String line : page) {
            Matcher row = ROW.matcher(line);
            if (row.matches() && row.group(1).equals(method)) {
                return row.group(2).isEmpty() ? 0 : row.group(2).split(", ").length;
            }
        }
        return -1;
    }

    // ---- the calls as a program

    public static void main(String[] args) throws IOException {
        StringBuilder program = new StringBuilder();
        program.append("public final class ReadmeCalls {\n")
            .append("  static int wrong = 0;\n")
            .append("  static void due(String call, String got, String want) {\n")
            .append("    if (!got.equals(want)) {\n")
            .append("      wrong++;\n")
            .append("      System.out.println(call + \" answered \" + got + \", the page says \" + want);\n")
            .append("    }\n")
            .append("  }\n")
            .append("  public static void main(String[] args) {\n");
        int calls = 0;
        for (List<Line> block : blocksOf(Files.readAllLines(PAGE))) {
            program.append("    {\n");
            for (Line line : block) {
                Matcher shown = SHOWN.matcher(line.text());
                boolean answered = shown.matches();
                calls += answered ? 1 : 0;
                program.append("      ").append(answered ? compared(line.number(), shown) : line.text()).append("\n");
            }
            program.append("    }\n");
        }
        program.append("    System.out.println(\"README.md: ").append(calls).append(" calls, \" + wrong + \" wrong\");\n")
            .append("    System.exit(wrong == 0 ? 0 : 1);\n")
            .append("  }\n")
            .append("}\n");
        System.out.print(program);
    }

    private static String compared(int number, Matcher shown) {
        String declared = shown.group(1);
        String call = shown.group(3);
        String answer = shown.group(5);
        String label = "\"README.md, line " + number + ": " + call.replace("\\", "\\\\").replace("\"", "\\\"") + "\"";
        if (answer.startsWith("throws ")) {
            String want = "\"" + answer.substring("throws ".length()) + "\"";
            return "try { due(" + label + ", \"\" + " + call + ", " + want + "); } catch (RuntimeException e) { due("
                + label + ", e.getClass().getSimpleName(), " + want + "); }";
        }
        String start = declared == null ? "" : declared + call + "; ";
        String got = declared == null ? call : shown.group(2);
        return start + "due(" + label + ", \"\" + " + got + ", \"" + answer + "\");";
    }
}
