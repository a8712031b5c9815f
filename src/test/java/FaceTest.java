import java.io.IOException;
import java.lang.reflect.Constructor;
import java.lang.reflect.Field;
import java.lang.reflect.Method;
import java.lang.reflect.Modifier;
import java.nio.file.Files;
import java.nio.file.Path;
import java.util.ArrayList;
import java.util.Arrays;
import java.util.List;
import java.util.Set;
import java.util.TreeSet;
import java.util.regex.Matcher;
import java.util.regex.Pattern;

/** The class shows the document's face and nothing else. */
public final class FaceTest {
    private static final String[] FACE = {
        "public static final int NONE", "public static final int OUTSIDE",
        "public static final int UNKNOWN", "public static final int ROOM",
        "public SmallPieces()",
        "public int node(int)", "public int clear()", "public int edge(int,int)", "public int colour(int,int)",
        "public int told(int)", "public int degree(int)", "public int both(int,int)", "public int count(int,int)",
        "public int placed(int,int,int,int)", "public int pair(int,int,int,int)", "public int coloured(int,int,int)",
        "public int mixed(int,int)", "public int change(int,int)", "public int after(int,int,int,int)",
        "public int nth(int,int,int,int)", "public int sort(int,int,int,int)", "public int rank(int,int,int,int)",
        "public int like(int,int)", "public int closed(int,int)", "public int rings(int)",
        "public int ringsBy(int,int)", "public int ways(int,int,int)",
    };
    private static final List<String> CALLS_AND_HEADINGS = List.of("node", "clear", "edge", "colour", "told", "degree",
            "both", "---- sets", "count", "placed", "pair", "coloured", "mixed", "change", "after", "nth", "sort",
            "rank", "like", "closed", "---- rings and ways", "rings", "ringsBy", "ways");

    public static void main(String[] args) throws IOException {
        members();
        classItself();
        classesInside();
        namesOfPrivateMethods();
        headings();
        Due.end();
    }

    private static void members() {
        Set<String> due = new TreeSet<>(Set.of(FACE));
        Set<String> got = shown();
        for (String member : due) {
            if (!got.contains(member)) {
                Due.tell("missing: " + member);
            }
        }
        for (String member : got) {
            if (!due.contains(member)) {
                Due.tell("not in the document: " + member);
            }
        }
    }

    private static Set<String> shown() {
        Set<String> shown = new TreeSet<>();
        for (Field field : SmallPieces.class.getDeclaredFields()) {
            if (!Modifier.isPrivate(field.getModifiers())) {
                shown.add(Modifier.toString(field.getModifiers()) + " " + field.getType() + " " + field.getName());
            }
        }
        for (Constructor<?> constructor : SmallPieces.class.getDeclaredConstructors()) {
            if (!Modifier.isPrivate(constructor.getModifiers())) {
                shown.add(constructor.toString());
            }
        }
        for (Method method : SmallPieces.class.getDeclaredMethods()) {
            if (!Modifier.isPrivate(method.getModifiers())) {
                shown.add(method.toString().replace("SmallPieces.", ""));
            }
        }
        return shown;
    }

    private static void classItself() {
        int modifiers = SmallPieces.class.getModifiers();
        if (!Modifier.isPublic(modifiers) || !Modifier.isFinal(modifiers)) {
            Due.tell("the class is not public and final");
        }
        if (SmallPieces.class.getSuperclass() != Object.class || SmallPieces.class.getInterfaces().length != 0) {
            Due.tell("the class is of a kind that the document does not name");
        }
    }

    private static void classesInside() {
        for (Class<?> inside : SmallPieces.class.getDeclaredClasses()) {
            int modifiers = inside.getModifiers();
            if (Modifier.isPublic(modifiers) || Modifier.isProtected(modifiers) || !Modifier.isStatic(modifiers)) {
                Due.tell("a class inside is seen from outside or not static: " + inside);
            }
        }
    }

    private static void namesOfPrivateMethods() {
        List<Class<?>> classes = new ArrayList<>(Arrays.asList(SmallPieces.class.getDeclaredClasses()));
        classes.add(SmallPieces.class);
        for (Class<?> of : classes) {
            for (Method method : of.getDeclaredMethods()) {
                if (!Modifier.isPublic(method.getModifiers()) && CALLS_AND_HEADINGS.contains(method.getName())) {
                    Due.tell("not public, but with the name of a call: " + method);
                }
            }
        }
    }

    /** Reflection knows no comments and no order, so these are looked for in the text. */
    private static void headings() throws IOException {
        String text = Files.readString(Path.of("src/main/java/SmallPieces.java"));
        Matcher line = Pattern.compile("^    (?:// (----.*)|public int (\\w+)\\(.*)$", Pattern.MULTILINE).matcher(text);
        List<String> got = new ArrayList<>();
        while (line.find()) {
            got.add(line.group(1) != null ? line.group(1) : line.group(2));
        }
        if (!got.equals(CALLS_AND_HEADINGS)) {
            Due.tell("calls and headings stand so: " + got);
        }
    }
}
