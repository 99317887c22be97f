import java.lang.reflect.Constructor;
import java.lang.reflect.Field;
import java.lang.reflect.Method;
import java.lang.reflect.Modifier;
import java.util.Arrays;
import java.util.TreeSet;

/** The class has the members of the document's face, and no other that can be seen from outside. */
public final class FaceTest {
    private static final String[] FACE = {
        "public final class ThreeModeJournal",
        "public static final int WRITEBACK",
        "public static final int ORDERED",
        "public static final int FULL",
        "public static final int NONE",
        "public static final int FAILED",
        "public ThreeModeJournal()",
        "public boolean write(int, int, int)",
        "public boolean cut(int, int)",
        "public boolean rename(int, int)",
        "public int read(int, int)",
        "public int length(int)",
        "public int commit()",
        "public boolean sync(int)",
        "public int flush(int)",
        "public int checkpoint(int)",
        "public void fuse(int)",
        "public boolean crash()",
        "public int mount(int)",
        "public int mode()",
        "public int home(int, int)",
        "public int need()",
        "public int room()",
        "public int head()",
        "public int dirty()",
        "public int free()",
        "public int writes()",
    };

    public static void main(String[] args) {
        TreeSet<String> due = new TreeSet<>(Arrays.asList(FACE));
        TreeSet<String> seen = visibleMembers();
        int wrong = report("missing", due, seen) + report("not in the face", seen, due) + sharedNames();
        System.out.println(wrong == 0 ? "the face is as due" : wrong + " faults in the face");
        if (wrong != 0) {
            System.exit(1);
        }
    }

    private static TreeSet<String> visibleMembers() {
        TreeSet<String> seen = new TreeSet<>();
        Class<?> c = ThreeModeJournal.class;
        seen.add(Modifier.toString(c.getModifiers()) + " class " + c.getName());
        for (Field f : c.getDeclaredFields()) {
            if (!Modifier.isPrivate(f.getModifiers())) {
                seen.add(Modifier.toString(f.getModifiers()) + " " + f.getType() + " " + f.getName());
            }
        }
        for (Constructor<?> k : c.getDeclaredConstructors()) {
            if (!Modifier.isPrivate(k.getModifiers())) {
                seen.add(Modifier.toString(k.getModifiers()) + " " + c.getName() + types(k.getParameterTypes()));
            }
        }
        for (Method m : c.getDeclaredMethods()) {
            if (!Modifier.isPrivate(m.getModifiers())) {
                seen.add(Modifier.toString(m.getModifiers()) + " " + m.getReturnType() + " " + m.getName()
                    + types(m.getParameterTypes()));
            }
        }
        return seen;
    }

    private static String types(Class<?>[] parameters) {
        String list = Arrays.toString(parameters);
        return "(" + list.substring(1, list.length() - 1) + ")";
    }

    private static int report(String what, TreeSet<String> of, TreeSet<String> without) {
        TreeSet<String> rest = new TreeSet<>(of);
        rest.removeAll(without);
        for (String member : rest) {
            System.out.println(what + ": " + member);
        }
        return rest.size();
    }

    /** LANGUAGE.md, rule 1: no private method bears the name of a public one. */
    private static int sharedNames() {
        TreeSet<String> open = new TreeSet<>();
        for (Method m : ThreeModeJournal.class.getDeclaredMethods()) {
            if (Modifier.isPublic(m.getModifiers())) {
                open.add(m.getName());
            }
        }
        int wrong = privateNamesIn(ThreeModeJournal.class, open);
        for (Class<?> inside : ThreeModeJournal.class.getDeclaredClasses()) {
            wrong += privateNamesIn(inside, open);
        }
        return wrong;
    }

    private static int privateNamesIn(Class<?> c, TreeSet<String> open) {
        int wrong = 0;
        for (Method m : c.getDeclaredMethods()) {
            if (!Modifier.isPublic(m.getModifiers()) && open.contains(m.getName())) {
                System.out.println("a name of the face borne by another method: " + m);
                wrong++;
            }
        }
        return wrong;
    }
}
