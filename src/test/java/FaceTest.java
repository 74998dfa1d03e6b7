import java.lang.reflect.Constructor;
import java.lang.reflect.Field;
import java.lang.reflect.Method;
import java.lang.reflect.Modifier;
import java.util.TreeSet;

/** The class shows what the document's face lists, and nothing more (LANGUAGE.md, rule 1). */
public final class FaceTest {
    private static final String[] FACE = {
        "public static final int NONE",
        "public SecretRows()",
        "public int secret(int, int, int)",
        "public boolean type(char)",
        "public int set(int, int)",
        "public boolean revoke(int)",
        "public int tick(int)",
        "public int step(int, int, int, boolean)",
        "public int sees(int, int)",
        "public int read(int, int, int)",
        "public int audit(int, int)",
        "public int log(int)",
        "public int close(int)",
        "public int told(int, int)",
        "public int about(int, int)",
        "public int token(int, int, int)",
        "public boolean good(int)",
        "public int scan()",
        "public int leak(int)",
    };

    public static void main(String[] args) {
        TreeSet<String> due = new TreeSet<>();
        for (String line : FACE) {
            due.add(line);
        }
        TreeSet<String> got = shown();
        TreeSet<String> missing = new TreeSet<>(due);
        missing.removeAll(got);
        TreeSet<String> extra = new TreeSet<>(got);
        extra.removeAll(due);
        int modifiers = SecretRows.class.getModifiers();
        boolean sealed = Modifier.isPublic(modifiers) && Modifier.isFinal(modifiers);
        System.out.println("missing: " + missing + ", too much: " + extra + ", public and final: " + sealed);
        boolean names = privateNamesDiffer();
        if (!missing.isEmpty() || !extra.isEmpty() || !sealed || !names) {
            System.exit(1);
        }
    }

    private static TreeSet<String> shown() {
        TreeSet<String> got = new TreeSet<>();
        for (Field field : SecretRows.class.getDeclaredFields()) {
            if (!Modifier.isPrivate(field.getModifiers())) {
                got.add(before(field.getModifiers()) + field.getType().getName() + " " + field.getName());
            }
        }
        for (Constructor<?> one : SecretRows.class.getDeclaredConstructors()) {
            if (!Modifier.isPrivate(one.getModifiers())) {
                got.add(before(one.getModifiers()) + "SecretRows" + list(one.getParameterTypes()));
            }
        }
        for (Method one : SecretRows.class.getDeclaredMethods()) {
            if (!Modifier.isPrivate(one.getModifiers())) {
                got.add(before(one.getModifiers()) + one.getReturnType().getName() + " " + one.getName()
                        + list(one.getParameterTypes()));
            }
        }
        return got;
    }

    private static boolean privateNamesDiffer() {
        TreeSet<String> open = new TreeSet<>();
        for (Method one : SecretRows.class.getMethods()) {
            open.add(one.getName());
        }
        boolean differ = true;
        for (Method one : SecretRows.class.getDeclaredMethods()) {
            if (Modifier.isPrivate(one.getModifiers()) && open.contains(one.getName())) {
                System.out.println("a private method bears a public one's name: " + one.getName());
                differ = false;
            }
        }
        return differ;
    }

    private static String before(int modifiers) {
        String text = Modifier.toString(modifiers);
        return text.isEmpty() ? "" : text + " ";
    }

    private static String list(Class<?>[] types) {
        StringBuilder text = new StringBuilder("(");
        for (Class<?> type : types) {
            text.append(text.length() > 1 ? ", " : "").append(type.getName());
        }
        return text.append(")").toString();
    }
}
