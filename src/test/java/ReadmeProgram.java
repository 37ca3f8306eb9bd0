import java.io.IOException;
import java.lang.reflect.Method;
import java.lang.reflect.Modifier;
import java.nio.file.Files;
import java.nio.file.Path;
import java.util.ArrayList;
import java.util.List;
import java.util.TreeSet;
import java.util.regex.Matcher;
import java.util.regex.Pattern;

/**
 * Writes the program ReadmeTest from the Java blocks of README.md: each of its calls is made as it
 * stands there and compared with the answer that stands behind it. Arguments: README.md, and the
 * file to write.
 */
public final class ReadmeProgram {
    // a call, and behind "//" its answer, which ends at a ":" or with the line
    private static final Pattern CALL = Pattern.compile("(desk\\.(\\w+)\\(.*\\));\\s*// ([^:]+)(: .*)?");

    // the only call without an answer, in the loops that type a text
    private static final String TYPING = "desk.append(sign);";

    private final List<String> program = new ArrayList<>();
    private final TreeSet<String> shown = new TreeSet<>();
    private int blocks;

    public static void main(String[] args) throws IOException {
        ReadmeProgram maker = new ReadmeProgram();
        maker.readBlocks(Files.readAllLines(Path.of(args[0])));
        maker.needWholeFace();
        Files.write(Path.of(args[1]), maker.whole());
    }

    private void readBlocks(List<String> readme) {
        boolean inBlock = false;
        for (int i = 0; i < readme.size(); i++) {
            String line = readme.get(i);
            if (!inBlock && line.equals("```java")) {
                inBlock = true;
                blocks++;
                program.add("    private static void block" + blocks + "() {");
            } else if (inBlock && line.equals("```")) {
                inBlock = false;
                program.add("    }");
            } else if (inBlock) {
                program.add("        " + statement(line, "README.md, line " + (i + 1)));
            }
        }
        need(!inBlock, "README.md ends within a block");
    }

    private String statement(String line, String place) {
        Matcher call = CALL.matcher(line);
        if (!call.matches()) {
            need(!line.contains("desk.") || line.strip().equals(TYPING), place + " tells no answer: " + line);
            return line;
        }
        shown.add(call.group(2));
        String what = quoted(place + ": " + call.group(1));
        return "CHECKS.answers(" + what + ", " + quoted(call.group(3)) + ", () -> " + call.group(1) + ");";
    }

    private static String quoted(String text) {
        return "\"" + text.replace("\\", "\\\\").replace("\"", "\\\"") + "\"";
    }

    private void needWholeFace() {
        for (Method method : BufferLoans.class.getDeclaredMethods()) {
            if (Modifier.isPublic(method.getModifiers())) {
                need(shown.contains(method.getName()), "README.md does not show " + method.getName());
            }
        }
    }

    private List<String> whole() {
        List<String> lines = new ArrayList<>();
        lines.add("public final class ReadmeTest {");
        lines.add("    private static final Checks CHECKS = new Checks();");
        lines.add("    public static void main(String[] args) {");
        for (int block = 1; block <= blocks; block++) {
            lines.add("        block" + block + "();");
        }
        lines.add("        CHECKS.end(\"ReadmeTest\");");
        lines.add("    }");
        lines.addAll(program);
        lines.add("}");
        return lines;
    }

    private static void need(boolean holds, String why) {
        if (!holds) {
            System.out.println(why);
            System.exit(1);
        }
    }
}
