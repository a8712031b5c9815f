import java.lang.reflect.Constructor;
import java.lang.reflect.Field;
import java.lang.reflect.Method;
import java.lang.reflect.Modifier;
import java.util.Set;
import java.util.TreeSet;

/** The class shows the document's face and nothing else. */
public final class FaceTest {
    private static final String[] FACE = {
        "public static final int NONE", "public static final int OUTSIDE",
        "public static final int UNKNOWN", "public static final int ROOM",
        "public SmallPieces()",
        "public int node(int)", "public int clear()", "public int edge(int,int)", "public int colour(int,int)",
        "public int told(int)", "public int degree(int)", "public int both(int,int)", "public int count(int,int)",
        "public int placed(int,int,int,int)", "public int pair(int,int,int,int)", "public int coloured(int,int,int)",
        "public int mixed(int,int)", "public int change(int,int)", "public int after(int,int,int,int)",
        "public int nth(int,int,int,int)", "public int sort(int,int,int,int)", "public int rank(int,int,int,int)",
        "public int like(int,int)", "public int closed(int,int)", "public int rings(int)",
        "public int ringsBy(int,int)", "public int ways(int,int,int)",
    };

    public static void main(String[] args) {
        Set<String> due = new TreeSet<>(Set.of(FACE));
        Set<String> got = shown();
        int wrong = 0;
        for (String member : due) {
            if (!got.contains(member)) {
                wrong++;
                System.out.println("missing: " + member);
            }
        }
        for (String member : got) {
            if (!due.contains(member)) {
                wrong++;
                System.out.println("not in the document: " + member);
            }
        }
        if (!Modifier.isFinal(SmallPieces.class.getModifiers())) {
            wrong++;
            System.out.println("the class is not final");
        }
        if (wrong != 0) {
            System.exit(1);
        }
        System.out.println("the face is the document's");
    }

    private static Set<String> shown() {
        Set<String> shown = new TreeSet<>();
        for (Field field : SmallPieces.class.getDeclaredFields()) {
            if (!Modifier.isPrivate(field.getModifiers())) {
                shown.add(Modifier.toString(field.getModifiers()) + " " + field.getType() + " " + field.getName());
            }
        }
        for (Constructor<?> constructor : SmallPieces.class.getDeclaredConstructors()) {
            if (!Modifier.isPrivate(constructor.getModifiers())) {
                shown.add(constructor.toString());
            }
        }
        for (Method method : SmallPieces.class.getDeclaredMethods()) {
            if (!Modifier.isPrivate(method.getModifiers())) {
                shown.add(method.toString().replace("SmallPieces.", ""));
            }
        }
        return shown;
    }
}
