import java.io.IOException;
import java.lang.reflect.Modifier;
import java.nio.file.Files;
import java.nio.file.Path;
import java.util.HashSet;
import java.util.Set;
import java.util.regex.Matcher;
import java.util.regex.Pattern;

/** What of ../shared/LANGUAGE.md can be seen from the source and the class. */
public final class LanguageTest {

    private static final String[] BARRED = {"throw", "try", "catch", "synchronized", "assert", "import", "package", "->", "::", "equals",
        "hashCode", "toString", "System.nanoTime", "System.currentTimeMillis", "Random", "Thread", "Exact", "new Object", "var", "float",
        "double", "Integer.valueOf", "String.format", "yield"};

    public static void main(String[] args) throws IOException {
        String source = Files.readString(Path.of("src/main/java/IceTreaty.java"));
        String code = withoutComments(source);
        for (String word : BARRED) {
            boolean isName = Character.isLetter(word.charAt(0));
            Matcher found = Pattern.compile(isName ? "\\b" + Pattern.quote(word) + "\\b" : Pattern.quote(word)).matcher(code);
            Check.due("barred: " + word, found.find(), false);
        }
        for (int i = 0; i < source.length(); i++) {
            if (source.charAt(i) > 126) {
                Check.due("sign above 126 at " + i, true, false);
            }
        }
        face();
        lengths(code);
        Check.end("LanguageTest");
    }

    private static String withoutComments(String source) {
        return source.replaceAll("(?s)/\\*.*?\\*/", "").replaceAll("//[^\n]*", "");
    }

    private static void face() {
        Set<String> shown = new HashSet<>();
        for (var method : IceTreaty.class.getDeclaredMethods()) {
            if (Modifier.isPublic(method.getModifiers())) {
                shown.add(method.getName());
            } else {
                Check.due("private: " + method.getName(), Modifier.isPrivate(method.getModifiers()), true);
            }
        }
        Check.due("public methods", shown.size(), 61);
        for (var method : IceTreaty.class.getDeclaredMethods()) {
            if (!Modifier.isPublic(method.getModifiers())) {
                Check.due("no public name: " + method.getName(), shown.contains(method.getName()), false);
            }
        }
        for (var field : IceTreaty.class.getDeclaredFields()) {
            boolean isShown = field.getName().equals("NONE");
            Check.due("field " + field.getName(), Modifier.isPrivate(field.getModifiers()), !isShown);
        }
        Check.due("classes inside", IceTreaty.class.getDeclaredClasses().length <= 12, true);
        for (Class<?> inside : IceTreaty.class.getDeclaredClasses()) {
            int fields = 0;
            for (var field : inside.getDeclaredFields()) {
                fields += Modifier.isStatic(field.getModifiers()) ? 0 : 1;
            }
            Check.due("fields of " + inside.getName(), fields <= 20, true);
            Check.due("static " + inside.getName(), Modifier.isStatic(inside.getModifiers()), true);
            for (var method : inside.getDeclaredMethods()) {
                Check.due("no public name: " + method.getName(), shown.contains(method.getName()), false);
                Check.due("parameters of " + method.getName(), method.getParameterCount() <= 7, true);
            }
        }
    }

    /** Methods of some sixty lines at most: what begins at the depth of a method and ends there. */
    private static void lengths(String code) {
        String[] lines = code.split("\n");
        for (int i = 0; i < lines.length; i++) {
            Matcher head = Pattern.compile("^( {4}| {8})[a-zA-Z].*\\) \\{$").matcher(lines[i]);
            if (!head.find() || lines[i].matches(" *(if|for|while|switch|return|\\}).*")) {
                continue;
            }
            int end = i;
            while (!lines[end].equals(head.group(1) + "}")) {
                end++;
            }
            Check.due("lines of " + lines[i].trim(), end - i <= 60, true);
        }
    }
}
