import java.io.IOException;
import java.lang.reflect.Field;
import java.lang.reflect.Method;
import java.lang.reflect.Modifier;
import java.nio.file.Files;
import java.nio.file.Path;
import java.util.HashSet;
import java.util.List;
import java.util.Set;
import java.util.regex.Matcher;
import java.util.regex.Pattern;

/** What of LANGUAGE.md can be seen by looking at the class and its text; run from the project's folder. */
public final class LanguageTest {
    private LanguageTest() {
    }

    public static void main(String[] args) throws IOException {
        List<String> lines = Files.readAllLines(Path.of("src/main/java/TriplicateForms.java"));
        noForbiddenWords(lines);
        shortMethods(lines);
        members();
        Desk.finish("LanguageTest");
    }

    private static void noForbiddenWords(List<String> lines) {
        Pattern forbidden = Pattern.compile("\\b(try|catch|finally|synchronized|assert|instanceof|package|volatile|native)\\b"
                + "|->|::|\\w+Exact\\b|\\bordinal\\b|@\\w+");
        for (int i = 0; i < lines.size(); i++) {
            String code = lines.get(i).replaceAll("\"[^\"]*\"", "\"\"").replaceAll("//.*|/?\\*\\*? .*", "");
            Matcher m = forbidden.matcher(code);
            Desk.due("line " + (i + 1) + " holds no forbidden word: " + code, m.find(), false);
            if (code.startsWith("import")) {
                boolean known = code.equals("import java.util.Arrays;")
                        || code.equals("import java.util.NoSuchElementException;");
                Desk.due("line " + (i + 1) + " imports what is told", known, true);
            }
            Desk.due("line " + (i + 1) + " holds signs 10 to 126", code.chars().allMatch(c -> c >= 32 && c < 127), true);
        }
    }

    private static void shortMethods(List<String> lines) {
        int begun = -1;
        String indent = "";
        for (int i = 0; i < lines.size(); i++) {
            String line = lines.get(i);
            Matcher m = Pattern.compile("^( {4}| {8})(?! |static final class|private static final class|private enum)"
                    + "[\\w\\[\\] ]+\\(([^)]*)\\)[\\w ]*\\{$").matcher(line);
            if (begun < 0 && m.find()) {
                begun = i;
                indent = m.group(1);
                Desk.due("line " + (i + 1) + " has at most seven parameters", m.group(2).split(",").length <= 7, true);
            } else if (begun >= 0 && line.equals(indent + "}")) {
                Desk.due("the method at line " + (begun + 1) + " is short", i - begun <= 60, true);
                begun = -1;
            }
        }
    }

    private static void members() {
        Set<String> face = new HashSet<>();
        for (Method m : TriplicateForms.class.getDeclaredMethods()) {
            if (Modifier.isPublic(m.getModifiers())) {
                face.add(m.getName());
            }
        }
        Desk.due("methods of the face", face.size(), 40);
        for (Method m : TriplicateForms.class.getDeclaredMethods()) {
            boolean hidden = Modifier.isPrivate(m.getModifiers()) && !face.contains(m.getName());
            Desk.due(m + " is of the face, or private with a name of its own",
                    Modifier.isPublic(m.getModifiers()) || hidden, true);
        }
        Class<?>[] inside = TriplicateForms.class.getDeclaredClasses();
        Desk.due("classes", inside.length + 1 <= 12, true);
        fields(TriplicateForms.class);
        for (Class<?> c : inside) {
            Desk.due(c + " is private and static",
                    Modifier.isPrivate(c.getModifiers()) && Modifier.isStatic(c.getModifiers()), true);
            fields(c);
            for (Method m : c.getDeclaredMethods()) {
                Desk.due(m + " has a name of its own", face.contains(m.getName()), false);
            }
        }
    }

    private static void fields(Class<?> c) {
        int own = 0;
        for (Field f : c.getDeclaredFields()) {
            boolean isStatic = Modifier.isStatic(f.getModifiers());
            Desk.due(f + " is final, if static", !isStatic || Modifier.isFinal(f.getModifiers()), true);
            boolean open = !Modifier.isPrivate(f.getModifiers()) && c == TriplicateForms.class;
            Desk.due(f + " is private, but for NONE", open && !f.getName().equals("NONE"), false);
            own += isStatic ? 0 : 1;
        }
        Desk.due(c + " has few fields", own <= 20, true);
    }
}
