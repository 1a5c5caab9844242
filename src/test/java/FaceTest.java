import java.lang.reflect.Field;
import java.lang.reflect.Method;
import java.lang.reflect.Modifier;
import java.util.Arrays;
import java.util.TreeSet;

/** The face: the document's members and no others, and the constants. */
public final class FaceTest {
    private static final Check check = new Check();

    public static void main(String[] args) {
        check.due("NONE", -1, EndedByOthers.NONE);
        check.due("UNKNOWN", -101, EndedByOthers.UNKNOWN);
        check.due("OUTSIDE", -102, EndedByOthers.OUTSIDE);
        check.due("STATE", -103, EndedByOthers.STATE);
        check.due("FULL", -104, EndedByOthers.FULL);
        int modifiers = EndedByOthers.class.getModifiers();
        check.holds("public and final", Modifier.isPublic(modifiers) && Modifier.isFinal(modifiers));
        check.due("constructors", 1, EndedByOthers.class.getDeclaredConstructors().length);
        methods();
        fields();
        nestedClasses();
        check.finish("FaceTest");
    }

    private static void methods() {
        TreeSet<String> due = new TreeSet<>(Arrays.asList(
                "letter(int)int", "blank()int", "fault()int", "room()int", "fits(int)int", "about(int,int)int",
                "as(int,int)int", "want(int,int)int", "would(int,int)int", "begin(int,int)int", "end(int,int)int",
                "sentence(int,int)int", "match(int)int", "hear(int,int,int)int", "forget()int",
                "talks(int,int,int)int", "image()int", "restore()int", "count(int)int", "digest()long"));
        TreeSet<String> names = new TreeSet<>();
        due.forEach(d -> names.add(d.substring(0, d.indexOf('('))));
        TreeSet<String> found = new TreeSet<>();
        for (Method method : EndedByOthers.class.getDeclaredMethods()) {
            if (Modifier.isPrivate(method.getModifiers())) {
                check.holds("private " + method.getName() + " bears its own name", !names.contains(method.getName()));
            } else {
                String types = String.join(",", Arrays.stream(method.getParameterTypes()).map(Class::getName).toList());
                found.add(method.getName() + "(" + types + ")" + method.getReturnType().getName());
            }
        }
        check.holds("methods " + found, found.equals(due));
    }

    private static void fields() {
        TreeSet<String> found = new TreeSet<>();
        for (Field field : EndedByOthers.class.getDeclaredFields()) {
            int modifiers = field.getModifiers();
            if (!Modifier.isPrivate(modifiers)) {
                found.add(field.getName());
            }
            check.holds(field.getName() + " is final, if static",
                    !Modifier.isStatic(modifiers) || Modifier.isFinal(modifiers));
        }
        check.holds("fields " + found,
                found.equals(new TreeSet<>(Arrays.asList("NONE", "UNKNOWN", "OUTSIDE", "STATE", "FULL"))));
    }

    private static void nestedClasses() {
        for (Class<?> nested : EndedByOthers.class.getDeclaredClasses()) {
            check.holds(nested.getName() + " is static", Modifier.isStatic(nested.getModifiers()));
            check.holds(nested.getName() + " is not public", !Modifier.isPublic(nested.getModifiers()));
        }
    }
}
