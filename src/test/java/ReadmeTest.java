import java.io.IOException;
import java.lang.reflect.Method;
import java.lang.reflect.Modifier;
import java.nio.charset.StandardCharsets;
import java.nio.file.Files;
import java.nio.file.Path;
import java.util.TreeSet;
import java.util.regex.Matcher;
import java.util.regex.Pattern;

// The calls that README.md shows answer what it says behind them, each call of the face is shown
// there, and so is the script that runs the tests.
public final class ReadmeTest {
    private static final Pattern SHOWN = Pattern.compile("poem\\.(\\w+)\\(([^)]*)\\); +// (\\S+)");
    private static int wrong = 0;

    public static void main(String[] args) throws IOException, ReflectiveOperationException {
        String text = Files.readString(Path.of("README.md"), StandardCharsets.UTF_8);
        AbjadPoems poem = new AbjadPoems();
        TreeSet<String> shown = new TreeSet<>();
        for (String line : text.split("\n")) {
            Matcher call = SHOWN.matcher(line);
            if (call.lookingAt()) {
                shown.add(call.group(1));
                due(line, answer(poem, call.group(1), call.group(2)), withoutStop(call.group(3)));
            } else {
                due("'" + line + "' is a call that this test can read", !line.startsWith("poem."), true);
            }
        }
        due("the calls that are shown", shown, namesOfFace());
        due("the way to run the tests is told", text.contains("\n    .ci/run\n"), true);
        System.out.println(wrong == 0 ? "README.md tells the truth" : wrong + " things are not as due");
        if (wrong != 0) {
            System.exit(1);
        }
    }

    private static void due(String what, Object got, Object want) {
        if (!want.equals(got)) {
            wrong++;
            System.out.println(what + " is " + got + ", due is " + want);
        }
    }

    private static String withoutStop(String word) {
        return word.replaceAll("[,:]$", "");
    }

    private static String answer(AbjadPoems poem, String name, String numbers)
            throws ReflectiveOperationException {
        String[] parts = numbers.isEmpty() ? new String[0] : numbers.split(", ");
        Class<?>[] types = new Class<?>[parts.length];
        Object[] values = new Object[parts.length];
        for (int i = 0; i < parts.length; i++) {
            types[i] = int.class;
            values[i] = Integer.valueOf(parts[i]);
        }
        return String.valueOf(AbjadPoems.class.getMethod(name, types).invoke(poem, values));
    }

    private static TreeSet<String> namesOfFace() {
        TreeSet<String> names = new TreeSet<>();
        for (Method method : AbjadPoems.class.getDeclaredMethods()) {
            if (Modifier.isPublic(method.getModifiers())) {
                names.add(method.getName());
            }
        }
        return names;
    }
}
