import java.io.IOException;
import java.lang.reflect.Constructor;
import java.lang.reflect.Field;
import java.lang.reflect.Method;
import java.lang.reflect.Modifier;
import java.nio.charset.StandardCharsets;
import java.nio.file.Files;
import java.nio.file.Path;
import java.util.TreeSet;

// The members of the class are those of the document's public face, and its text keeps the plain
// rules of LANGUAGE.md that can be told from the text alone.
public final class FaceTest {
    private static final String INDEX = "IndexOutOfBoundsException ";
    private static final String ARGUMENT = "IllegalArgumentException ";
    private static final String STATE = "IllegalStateException ";
    private static final String[] FACE = {
        "int count(int ) " + INDEX,
        "int letter(int ) " + INDEX,
        "int value(int ) " + ARGUMENT,
        "boolean alike(int int ) " + ARGUMENT,
        "int write() " + STATE,
        "int add(int int ) " + INDEX + ARGUMENT + STATE,
        "int cut(int ) " + INDEX + STATE,
        "boolean mark(int int int ) " + INDEX,
        "int word(int int int ) " + INDEX,
        "int line(int int ) " + INDEX,
        "int told(int ) " + INDEX,
        "int hidden(int int ) " + INDEX,
        "int hides(int ) ",
        "int lacks(int int ) " + INDEX,
        "int nearest(int ) ",
        "int letters(int ) " + ARGUMENT,
        "int spell(int int ) " + ARGUMENT + INDEX,
        "double mean() ",
        "long digest() ",
    };
    private static final String[] SECTIONS = {"// ---- letters and words", "public int count(",
        "// ---- the poem", "public int write(", "// ---- years", "public int hidden("};
    private static final String[] RULED_OUT = {"import ", "package ", "->", "::", "finally",
        "catch", "synchronized", "assert", "Exact(", "protected ", "System.", "@", "java.", "static {",
        "equals(", "hashCode(", "toString(", "\" +", "+ \"", "Error", "Random", "Thread"};
    private static int wrong = 0;

    public static void main(String[] args) throws IOException {
        members();
        source(Files.readString(Path.of("src/main/java/AbjadPoems.java"), StandardCharsets.UTF_8));
        System.out.println(wrong == 0 ? "the face is as due" : wrong + " things are not as due");
        if (wrong != 0) {
            System.exit(1);
        }
    }

    private static void due(String what, Object got, Object want) {
        if (!want.equals(got)) {
            wrong++;
            System.out.println(what + " is " + got + ", due is " + want);
        }
    }

    private static void members() {
        due("the class is public and final", AbjadPoems.class.getModifiers(),
            Modifier.PUBLIC | Modifier.FINAL);
        Constructor<?>[] constructors = AbjadPoems.class.getDeclaredConstructors();
        due("the number of constructors", constructors.length, 1);
        due("the constructor's modifiers", constructors[0].getModifiers(), Modifier.PUBLIC);
        due("the constructor's parameters", constructors[0].getParameterCount(), 0);
        TreeSet<String> shown = new TreeSet<>();
        TreeSet<String> names = new TreeSet<>();
        for (Method method : AbjadPoems.class.getDeclaredMethods()) {
            due(method + " takes at most seven parameters", method.getParameterCount() <= 7, true);
            if (!Modifier.isPrivate(method.getModifiers())) {
                due(method + " is public alone", method.getModifiers(), Modifier.PUBLIC);
                shown.add(faceOf(method));
                names.add(method.getName());
            }
        }
        due("the face", shown, new TreeSet<>(java.util.List.of(FACE)));
        for (Method method : AbjadPoems.class.getDeclaredMethods()) {
            if (Modifier.isPrivate(method.getModifiers()) && names.contains(method.getName())) {
                due("a private method of a public one's name", method.getName(), "none");
            }
        }
        int kept = 0;
        for (Field field : AbjadPoems.class.getDeclaredFields()) {
            int modifiers = field.getModifiers();
            kept += Modifier.isStatic(modifiers) ? 0 : 1;
            due(field + " is private", Modifier.isPrivate(modifiers), true);
            due(field + " is no static state",
                Modifier.isStatic(modifiers) && !Modifier.isFinal(modifiers), false);
        }
        due("the class has some twenty fields beside its constants, at most", kept <= 20, true);
    }

    private static String faceOf(Method method) {
        StringBuilder text = new StringBuilder();
        text.append(method.getReturnType().getName()).append(' ').append(method.getName()).append('(');
        for (Class<?> parameter : method.getParameterTypes()) {
            text.append(parameter.getName()).append(' ');
        }
        text.append(") ");
        for (Class<?> thrown : method.getExceptionTypes()) {
            text.append(thrown.getSimpleName()).append(' ');
        }
        return text.toString();
    }

    private static void source(String text) {
        int at = 0;
        for (String section : SECTIONS) {
            int next = text.indexOf(section, at);
            due("'" + section + "' stands in its order", next >= 0, true);
            at = Math.max(at, next);
        }
        for (String words : RULED_OUT) {
            due("'" + words + "' stands in the program", text.contains(words), false);
        }
        due("the text is ASCII", text.chars().allMatch(sign -> sign < 128), true);
    }
}
