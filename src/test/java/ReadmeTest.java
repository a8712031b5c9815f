import java.io.IOException;
import java.lang.reflect.Method;
import java.lang.reflect.Modifier;
import java.nio.file.Files;
import java.nio.file.Path;
import java.util.HashMap;
import java.util.Map;
import java.util.regex.Matcher;
import java.util.regex.Pattern;

/** What README.md tells a reader holds: the answers in its example, and that its table leaves out no call. */
public final class ReadmeTest {
    private static final Pattern BLOCK = Pattern.compile("```java\n(.*?)```", Pattern.DOTALL);
    private static final Pattern LINE = Pattern.compile(
            "(?:int (\\w+) = )?pieces\\.(\\w+)\\(([^)]*)\\); *// (-?\\d+)(?:: (OUTSIDE|UNKNOWN|ROOM|NONE))?.*");

    public static void main(String[] args) throws IOException {
        String readme = Files.readString(Path.of("README.md"));
        example(readme);
        everyCall(readme);
        Due.end();
    }

    private static void example(String readme) {
        Matcher block = BLOCK.matcher(readme);
        if (!block.find()) {
            Due.tell("README.md has no example");
            return;
        }
        Watched p = new Watched("README.md, example");
        Map<String, Integer> variables = new HashMap<>();
        String[] lines = block.group(1).split("\n");
        if (!lines[0].equals("SmallPieces pieces = new SmallPieces();")) {
            Due.tell("README.md, example: it does not begin with a new object");
        }
        for (int i = 1; i < lines.length; i++) {
            Matcher line = LINE.matcher(lines[i]);
            if (line.matches()) {
                done(p, line, variables);
            } else {
                Due.tell("README.md, example: no call with its answer: " + lines[i]);
            }
        }
    }

    private static void done(Watched p, Matcher line, Map<String, Integer> variables) {
        int want = Integer.parseInt(line.group(4));
        p.due(want, line.group(2), values(line.group(3), variables));
        if (line.group(1) != null) {
            variables.put(line.group(1), want);
        }
        if (line.group(5) != null) {
            Due.is("README.md, example", line.group(5), want, constant(line.group(5)));
        }
    }

    private static int[] values(String arguments, Map<String, Integer> variables) {
        if (arguments.isEmpty()) {
            return new int[0];
        }
        String[] texts = arguments.split(", ");
        int[] values = new int[texts.length];
        for (int i = 0; i < texts.length; i++) {
            Integer known = variables.get(texts[i]);
            values[i] = known != null ? known : Integer.parseInt(texts[i]);
        }
        return values;
    }

    private static int constant(String name) {
        return switch (name) {
            case "OUTSIDE" -> SmallPieces.OUTSIDE;
            case "UNKNOWN" -> SmallPieces.UNKNOWN;
            case "ROOM" -> SmallPieces.ROOM;
            default -> SmallPieces.NONE;
        };
    }

    private static void everyCall(String readme) {
        for (Method method : SmallPieces.class.getDeclaredMethods()) {
            Pattern told = Pattern.compile("^\\|.*`" + method.getName() + "\\(", Pattern.MULTILINE);
            if (Modifier.isPublic(method.getModifiers()) && !told.matcher(readme).find()) {
                Due.tell("README.md, table of calls: it leaves out " + method.getName());
            }
        }
    }
}
