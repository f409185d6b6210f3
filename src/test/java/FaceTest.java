import java.io.IOException;
import java.lang.reflect.Field;
import java.lang.reflect.Method;
import java.lang.reflect.Modifier;
import java.nio.file.Files;
import java.nio.file.Path;
import java.util.ArrayList;
import java.util.List;
import java.util.Set;
import java.util.TreeSet;
import java.util.regex.Matcher;
import java.util.regex.Pattern;

/** The public face as the document writes it, and the rules of LANGUAGE.md that can be seen in the source. */
public final class FaceTest {
    private static final Check CHECK = new Check("FaceTest");
    private static final Path SOURCE = Path.of("src/main/java/SpiritWall.java");
    private static final Path DOCUMENT = Path.of("../shared/DOC.md");

    public static void main(String[] args) throws IOException {
        List<String> source = Files.readAllLines(SOURCE);
        face();
        constants();
        members();
        names();
        words(source);
        lengths(source);
        CHECK.end();
    }

    /** The face in the document, one member a line. */
    private static void face() throws IOException {
        Set<String> due = new TreeSet<>();
        for (String line : Files.readAllLines(DOCUMENT)) {
            if (!line.startsWith("    public ") || !line.contains("(") || line.contains("SpiritWall(")) continue;
            due.add(line.trim().replaceAll("(int|boolean) \\w+(,|\\))", "$1$2").replace("public ", "").replace(";", ""));
        }
        CHECK.due("methods in the document", 53, due.size());
        Set<String> got = new TreeSet<>();
        for (Method method : SpiritWall.class.getDeclaredMethods()) {
            if (Modifier.isPublic(method.getModifiers())) got.add(told(method));
        }
        CHECK.due("methods", due.toString(), got.toString());
        CHECK.due("constructors", 1, SpiritWall.class.getConstructors().length);
        CHECK.due("class", "public final", Modifier.toString(SpiritWall.class.getModifiers()));
    }

    private static String told(Method method) {
        StringBuilder text = new StringBuilder(method.getReturnType().getSimpleName());
        text.append(' ').append(method.getName()).append('(');
        String between = "";
        for (Class<?> type : method.getParameterTypes()) {
            text.append(between).append(type.getSimpleName());
            between = ", ";
        }
        text.append(')');
        between = " throws ";
        for (Class<?> type : method.getExceptionTypes()) {
            text.append(between).append(type.getSimpleName());
            between = ", ";
        }
        return text.toString();
    }

    private static void constants() {
        Set<String> got = new TreeSet<>();
        for (Field field : SpiritWall.class.getFields()) {
            got.add(Modifier.toString(field.getModifiers()) + " " + field.getType() + " " + field.getName());
        }
        CHECK.due("constants", "[public static final int BACK, public static final int FORE, public static final int NONE,"
                + " public static final int NO_HEIGHT]", got.toString());
    }

    private static void members() {
        for (Field field : SpiritWall.class.getDeclaredFields()) {
            int modifiers = field.getModifiers();
            CHECK.due("visible field " + field.getName(), true, Modifier.isPrivate(modifiers) || Modifier.isPublic(modifiers));
        }
        for (Method method : SpiritWall.class.getDeclaredMethods()) {
            int modifiers = method.getModifiers();
            CHECK.due("visible method " + method.getName(), true, Modifier.isPrivate(modifiers) || Modifier.isPublic(modifiers));
        }
        CHECK.due("few classes", true, SpiritWall.class.getDeclaredClasses().length <= 11);
        for (Class<?> inside : SpiritWall.class.getDeclaredClasses()) {
            CHECK.due("static class " + inside, true, Modifier.isStatic(inside.getModifiers()));
            int own = 0;
            for (Field field : inside.getDeclaredFields()) {
                boolean constant = Modifier.isStatic(field.getModifiers());
                CHECK.due("final static " + field, true, !constant || Modifier.isFinal(field.getModifiers()));
                if (!constant) own++;
            }
            CHECK.due("few fields " + inside, true, own <= 20);
        }
    }

    private static void names() {
        Set<String> face = new TreeSet<>();
        for (Method method : SpiritWall.class.getDeclaredMethods()) {
            if (Modifier.isPublic(method.getModifiers())) face.add(method.getName());
        }
        List<Class<?>> classes = new ArrayList<>(List.of(SpiritWall.class.getDeclaredClasses()));
        classes.add(SpiritWall.class);
        for (Class<?> each : classes) {
            for (Method method : each.getDeclaredMethods()) {
                boolean hidden = each != SpiritWall.class || Modifier.isPrivate(method.getModifiers());
                CHECK.due("no name of the face: " + method, false, hidden && face.contains(method.getName()));
            }
        }
    }

    private static void words(List<String> source) {
        Pattern wrong = Pattern.compile("\\b(import|package|try|catch|finally|synchronized|assert|var|transient|volatile"
                + "|System|Thread|Runtime|Object|native|instanceof|record|sealed|yield)\\b|->|::|\\w+Exact|\\[\\]\\[\\]|@");
        Pattern library = Pattern.compile("Math\\.(\\w+)");
        for (String line : source) {
            String code = line.replaceAll("\"[^\"]*\"", "\"\"").replaceAll("//.*|/?\\*\\*.*", "");
            CHECK.due("no such word: " + line.trim(), false, wrong.matcher(code).find());
            Matcher matcher = library.matcher(code);
            while (matcher.find()) CHECK.due("library " + matcher.group(), true, Set.of("abs", "floorDiv").contains(matcher.group(1)));
        }
    }

    private static void lengths(List<String> source) {
        int start = -1;
        for (int i = 0; i < source.size(); i++) {
            String line = source.get(i);
            if (line.matches(" {4}(?: {4})?[^ /*}].*\\{") && line.contains("(")) start = i;
            boolean end = line.matches(" {4}(?: {4})?\\}");
            if (end && start >= 0) CHECK.due("short method at line " + (start + 1), true, i - start < 60);
            if (end) start = -1;
            CHECK.due("short line " + (i + 1), true, line.length() <= 125);
        }
    }
}
