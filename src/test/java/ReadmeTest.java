import java.io.IOException;
import java.lang.reflect.Method;
import java.lang.reflect.Modifier;
import java.nio.file.Files;
import java.nio.file.Path;
import java.util.regex.Matcher;
import java.util.regex.Pattern;

/** README.md: its example answers as it says, and its table has each call; it runs in the project's folder. */
public final class ReadmeTest {
    private static final Check check = new Check();
    private static final Pattern TEXT = Pattern.compile("String text = \"([^\"]*)\";");
    private static final Pattern CALL = Pattern.compile("(?m)^x\\.(\\w+)\\(([-\\d, ]*)\\);\\s*// (-?\\d+|[A-Z]+)");

    public static void main(String[] args) throws IOException, ReflectiveOperationException {
        String readme = Files.readString(Path.of("README.md"));
        example(readme);
        table(readme);
        constants(readme);
        check.finish("ReadmeTest");
    }

    private static void example(String readme) throws ReflectiveOperationException {
        Matcher text = TEXT.matcher(readme);
        check.holds("a text is typed", text.find());
        EndedByOthers x = Check.typed(text.group(1));
        int calls = 0;
        for (Matcher call = CALL.matcher(readme); call.find(); calls++) {
            String[] numbers = call.group(2).isEmpty() ? new String[0] : call.group(2).split(", ");
            check.due(call.group(), due(call.group(3)), answer(x, call.group(1), numbers));
        }
        long rows = readme.lines().filter(line -> line.startsWith("x.")).count();
        check.due("calls with an answer behind", rows, calls);
        check.holds("there are some", calls > 0);
    }

    private static long due(String told) throws ReflectiveOperationException {
        boolean isName = Character.isLetter(told.charAt(0));
        return isName ? EndedByOthers.class.getField(told).getInt(null) : Long.parseLong(told);
    }

    private static long answer(EndedByOthers x, String name, String[] numbers) throws ReflectiveOperationException {
        Class<?>[] types = new Class<?>[numbers.length];
        Object[] values = new Object[numbers.length];
        for (int i = 0; i < numbers.length; i++) {
            types[i] = int.class;
            values[i] = Integer.valueOf(numbers[i]);
        }
        return ((Number) EndedByOthers.class.getMethod(name, types).invoke(x, values)).longValue();
    }

    private static void table(String readme) {
        for (Method method : EndedByOthers.class.getDeclaredMethods()) {
            if (Modifier.isPublic(method.getModifiers())) {
                Pattern row = Pattern.compile("(?m)^\\|.*`" + method.getName() + "\\([a-z, ]*\\)`.*\\|$");
                check.holds("a row for " + method.getName(), row.matcher(readme).find());
            }
        }
    }

    private static void constants(String readme) {
        check.holds("UNKNOWN", readme.contains("`UNKNOWN` (" + EndedByOthers.UNKNOWN + ")"));
        check.holds("OUTSIDE", readme.contains("`OUTSIDE` (" + EndedByOthers.OUTSIDE + ")"));
        check.holds("STATE", readme.contains("`STATE` (" + EndedByOthers.STATE + ")"));
        check.holds("FULL", readme.contains("`FULL` (" + EndedByOthers.FULL + ")"));
        check.holds("NONE", readme.contains("`NONE` (" + EndedByOthers.NONE + ")"));
    }
}
