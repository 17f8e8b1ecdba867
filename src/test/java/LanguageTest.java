import java.lang.reflect.Method;
import java.lang.reflect.Modifier;
import java.nio.file.Files;
import java.nio.file.Path;
import java.util.HashSet;
import java.util.List;
import java.util.Set;
import java.util.regex.Matcher;
import java.util.regex.Pattern;

/** What of LANGUAGE.md can be seen in the source's text: words, lengths of methods, parameters, names. */
public final class LanguageTest {
    private static final Check CHECK = new Check("LanguageTest");
    private static final Pattern FORBIDDEN = Pattern.compile("\\b(throw|throws|try|catch|finally|synchronized|assert"
            + "|import|package|protected|volatile|native|transient|instanceof|Object|Exception|hashCode|toString"
            + "|Exact|Random|Thread|System\\.(?!arraycopy)\\w+)\\b|->|::");

    public static void main(String[] args) throws Exception {
        List<String> lines = Files.readAllLines(Path.of(args.length > 0 ? args[0] : "src/main/java/DuskGates.java"));
        words(lines);
        lengths(lines);
        names();
        CHECK.end();
    }

    private static void words(List<String> lines) {
        for (int k = 0; k < lines.size(); k++) {
            String code = lines.get(k).replaceAll("\"[^\"]*\"", "\"\"").replaceAll("//.*|^\\s*/\\*\\*.*", "");
            Matcher m = FORBIDDEN.matcher(code);
            CHECK.due("line " + (k + 1) + ": " + code, m.find() ? 1 : 0, 0);
            CHECK.due("line " + (k + 1) + " has a sign beyond 127", code.chars().filter(c -> c > 127).count(), 0);
        }
    }

    /** Methods begin at four or eight spaces and end with a brace at the same place. */
    private static void lengths(List<String> lines) {
        Pattern head = Pattern.compile("^( {4}| {8})(public|private|static|int|void|boolean|[A-Z]\\w*\\().*\\) \\{$");
        for (int k = 0; k < lines.size(); k++) {
            Matcher m = head.matcher(lines.get(k));
            if (m.matches()) {
                int end = k;
                while (end < lines.size() && !lines.get(end).equals(m.group(1) + "}")) {
                    end++;
                }
                CHECK.due("too long: " + lines.get(k), end - k + 1 > 60 ? 1 : 0, 0);
            }
        }
    }

    private static void names() {
        Set<String> face = new HashSet<>();
        for (Method m : DuskGates.class.getMethods()) {
            face.add(m.getName());
        }
        own(DuskGates.class, face);
        for (Class<?> c : DuskGates.class.getDeclaredClasses()) {
            own(c, face);
        }
    }

    private static void own(Class<?> c, Set<String> face) {
        for (Method m : c.getDeclaredMethods()) {
            CHECK.due(m + " has too many parameters", m.getParameterCount() > 7 ? 1 : 0, 0);
            if (!Modifier.isPublic(m.getModifiers())) {
                CHECK.due(m + " bears a public one's name", face.contains(m.getName()) ? 1 : 0, 0);
            }
        }
    }
}
