import java.lang.reflect.Constructor;
import java.lang.reflect.Field;
import java.lang.reflect.Method;
import java.lang.reflect.Modifier;
import java.nio.file.Files;
import java.nio.file.Path;
import java.util.Set;
import java.util.TreeSet;
import java.util.regex.Matcher;
import java.util.regex.Pattern;

/** The public face is the document's, and the file keeps to what of LANGUAGE.md a plain look can tell. */
public final class FaceTest {
    private static final String DOC = "../shared/DOC.md";
    private static final String MAIN = "src/main/java/FollowedHours.java";
    private static final String[] NOT_ALLOWED = {"throw", "throws", "try", "catch", "finally", "synchronized", "assert",
        "import", "package", "protected", "var", "yield", "native", "volatile", "transient", "strictfp"};

    public static void main(String[] args) throws Exception {
        face();
        if (!Files.exists(Path.of(MAIN))) {
            System.out.println("to be run in the project's directory");
            System.exit(1);
        }
        String source = withoutTexts(Files.readString(Path.of(MAIN)));
        words(source);
        methodLengths(source);
        Check.end();
    }

    private static void face() throws Exception {
        Set<String> due = new TreeSet<>();
        Matcher m = Pattern.compile("^    public (int|long) (\\w+)\\((.*)\\);$", Pattern.MULTILINE)
            .matcher(Files.readString(Path.of(DOC)));
        while (m.find()) {
            String types = m.group(3).isEmpty() ? "" : m.group(3).replaceAll("int \\w+", "int");
            due.add(m.group(1) + " " + m.group(2) + "(" + types + ")");
        }
        Set<String> is = new TreeSet<>();
        Set<String> names = new TreeSet<>();
        for (Method method : FollowedHours.class.getDeclaredMethods()) {
            if (Modifier.isPublic(method.getModifiers())) {
                is.add(signature(method));
                names.add(method.getName());
            }
        }
        Check.due("methods of the document", due.size(), 48);
        Check.due("face " + is + ", due " + due, is.equals(due) ? 1 : 0, 1);
        Constructor<?>[] all = FollowedHours.class.getDeclaredConstructors();
        Check.due("constructors", all.length, 1);
        Check.due("public constructor", all[0].getModifiers() & Modifier.PUBLIC, Modifier.PUBLIC);
        Check.due("final class", FollowedHours.class.getModifiers() & Modifier.FINAL, Modifier.FINAL);
        for (Field f : FollowedHours.class.getDeclaredFields()) {
            Check.due("private " + f.getName(), f.getModifiers() & Modifier.PRIVATE, Modifier.PRIVATE);
        }
        hiddenMethods(FollowedHours.class, names);
        for (Class<?> inside : FollowedHours.class.getDeclaredClasses()) {
            Check.due("static " + inside, inside.getModifiers() & Modifier.STATIC, Modifier.STATIC);
            hiddenMethods(inside, names);
        }
        Check.due("classes", FollowedHours.class.getDeclaredClasses().length <= 12 ? 1 : 0, 1);
    }

    private static String signature(Method method) {
        StringBuilder types = new StringBuilder();
        for (Class<?> type : method.getParameterTypes()) {
            types.append(types.length() == 0 ? "" : ", ").append(type.getName());
        }
        return method.getReturnType().getName() + " " + method.getName() + "(" + types + ")";
    }

    private static void hiddenMethods(Class<?> type, Set<String> names) {
        for (Method method : type.getDeclaredMethods()) {
            boolean isFace = type == FollowedHours.class && Modifier.isPublic(method.getModifiers());
            boolean isHidden = type != FollowedHours.class || Modifier.isPrivate(method.getModifiers());
            Check.due(method + " is of the face or private", isFace || isHidden ? 1 : 0, 1);
            Check.due(method + " bears a public name", !isFace && names.contains(method.getName()) ? 1 : 0, 0);
            Check.due(method + " has seven parameters at most", method.getParameterCount() <= 7 ? 1 : 0, 1);
        }
    }

    private static String withoutTexts(String source) {
        return source.replaceAll("(?s)/\\*.*?\\*/", "").replaceAll("//[^\n]*", "").replaceAll("\"[^\"\n]*\"", "\"\"");
    }

    private static void words(String source) {
        for (String word : NOT_ALLOWED) {
            Check.due(word + " stands", Pattern.compile("\\b" + word + "\\b").matcher(source).find() ? 1 : 0, 0);
        }
        Check.due("a lambda stands", source.contains("->") ? 1 : 0, 0);
        Check.due("a method reference stands", source.contains("::") ? 1 : 0, 0);
        Check.due("an Exact function stands", Pattern.compile("\\w+Exact\\(").matcher(source).find() ? 1 : 0, 0);
        for (char c : source.toCharArray()) {
            if (c > 126) {
                Check.due("sign " + (int) c, 1, 0);
            }
        }
    }

    private static void methodLengths(String source) {
        String[] lines = source.split("\n");
        for (int i = 0; i < lines.length; i++) {
            String indent = lines[i].substring(0, lines[i].length() - lines[i].stripLeading().length());
            if (lines[i].endsWith(") {") && (indent.length() == 4 || indent.length() == 8) && lines[i].matches("\\s+[\\w\\[\\] ]+\\(.*")
                && !lines[i].matches("\\s+(if|for|while|switch|else)\\b.*")) {
                int end = i;
                while (!lines[end].equals(indent + "}")) {
                    end++;
                }
                Check.due("lines of " + lines[i].strip(), end - i < 60 ? 1 : 0, 1);
            }
        }
    }
}
