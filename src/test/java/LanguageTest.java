import java.io.IOException;
import java.lang.reflect.Constructor;
import java.lang.reflect.Field;
import java.lang.reflect.Method;
import java.lang.reflect.Modifier;
import java.nio.file.Files;
import java.nio.file.Path;
import java.util.ArrayList;
import java.util.HashSet;
import java.util.List;
import java.util.Set;
import java.util.TreeSet;
import java.util.regex.Matcher;
import java.util.regex.Pattern;

/** The rules of ../shared/LANGUAGE.md that can be seen from the text or by reflection. */
public final class LanguageTest {
    private static final Due due = new Due("LanguageTest");
    private static final Path SOURCE = Path.of("src/main/java/TwoLetterForms.java");
    private static final Path DOC = Path.of("../shared/DOC.md");
    private static final int MOST_LINES = 60, MOST_CLASSES = 12, MOST_FIELDS = 20, MOST_PARAMETERS = 7;

    public static void main(String[] args) throws IOException {
        String text = withoutComments(Files.readString(SOURCE));
        face();
        classes();
        words(text);
        calls(text);
        methodLengths(text);
        due.end();
    }

    private static void none(String what, Object found) {
        due.yes(what + ": " + found, found.toString().equals("[]"));
    }

    private static String withoutComments(String text) {
        return text.replaceAll("(?s)/\\*.*?\\*/", "").replaceAll("//[^\n]*", "");
    }

    /** The document's own lines between class and the closing brace. */
    private static Set<String> promised() throws IOException {
        Set<String> found = new TreeSet<>();
        Matcher line = Pattern.compile("    public (int|long) (\\w+)\\(([^)]*)\\);").matcher(Files.readString(DOC));
        while (line.find()) {
            String types = line.group(3).replaceAll(" \\w+(, |$)", " ").trim();
            found.add(line.group(1) + " " + line.group(2) + "(" + types + ")");
        }
        return found;
    }

    private static void face() throws IOException {
        Class<?> face = TwoLetterForms.class;
        Set<String> methods = new TreeSet<>();
        for (Method method : face.getDeclaredMethods()) {
            if (Modifier.isPrivate(method.getModifiers())) continue;
            due.yes(method + " is public and no static one", Modifier.isPublic(method.getModifiers()) && !Modifier.isStatic(method.getModifiers()));
            List<String> types = new ArrayList<>();
            for (Class<?> type : method.getParameterTypes()) {
                types.add(type.getName());
            }
            methods.add(method.getReturnType() + " " + method.getName() + "(" + String.join(" ", types) + ")");
        }
        due.eq("methods of the face", methods.size(), 34);
        due.yes("the face is the document's: " + methods, methods.equals(promised()));
        due.yes("public and final", Modifier.isPublic(face.getModifiers()) && Modifier.isFinal(face.getModifiers()));
        Constructor<?>[] constructors = face.getDeclaredConstructors();
        due.yes("one public constructor", constructors.length == 1 && Modifier.isPublic(constructors[0].getModifiers()) && constructors[0].getParameterCount() == 0);
        Set<String> constants = new TreeSet<>();
        for (Field field : face.getDeclaredFields()) {
            if (!Modifier.isPrivate(field.getModifiers())) constants.add(field.getType() + " " + field.getName());
        }
        due.yes("constants: " + constants, constants.equals(Set.of("int NONE", "int BAD", "int STATE", "int FULL", "long NO")));
    }

    private static List<Class<?>> allClasses() {
        List<Class<?>> all = new ArrayList<>();
        all.add(TwoLetterForms.class);
        for (int i = 0; i < all.size(); i++) {
            all.addAll(List.of(all.get(i).getDeclaredClasses()));
        }
        return all;
    }

    private static void classes() {
        Set<String> names = new HashSet<>();
        for (Method method : TwoLetterForms.class.getDeclaredMethods()) {
            if (Modifier.isPublic(method.getModifiers())) names.add(method.getName());
        }
        List<String> wrong = new ArrayList<>();
        for (Class<?> one : allClasses()) {
            int fields = 0;
            for (Field field : one.getDeclaredFields()) {
                if (!Modifier.isStatic(field.getModifiers())) fields++;
                else if (!Modifier.isFinal(field.getModifiers())) wrong.add(field.toString());
            }
            if (fields > MOST_FIELDS) wrong.add(one + " has " + fields + " fields");
            if (one != TwoLetterForms.class && !Modifier.isStatic(one.getModifiers())) wrong.add(one + " is not static");
            for (Method method : one.getDeclaredMethods()) {
                if (method.getParameterCount() > MOST_PARAMETERS) wrong.add(method.toString());
                if (!Modifier.isPublic(method.getModifiers()) && names.contains(method.getName())) wrong.add(method.toString());
                if (Set.of("equals", "hashCode", "toString").contains(method.getName())) wrong.add(method.toString());
            }
        }
        none("members", wrong);
        due.yes("classes", allClasses().size() <= MOST_CLASSES);
    }

    private static List<String> all(String text, String pattern) {
        List<String> found = new ArrayList<>();
        Matcher next = Pattern.compile(pattern).matcher(text);
        while (next.find()) {
            found.add(next.group());
        }
        return found;
    }

    private static void words(String text) {
        none("words", all(text, "\\b(throw|throws|try|catch|synchronized|assert|volatile|native|package|protected|var|record|yield)\\b"));
        none("signs", all(text, "->|::|\"|@"));
        due.eq("imports", all(text, "\\bimport\\b").size(), 1);
        due.yes("imports Arrays", text.contains("import java.util.Arrays;"));
        none("static blocks", all(text, "static\\s*\\{"));
        none("loops without an end to be seen", all(text, "\\bwhile\\b|for \\(;"));
        none("signs beyond 127", all(text, "[^\\x00-\\x7f]"));
    }

    private static void calls(String text) {
        Set<String> used = new TreeSet<>(all(text, "\\b(Arrays|Math|Integer|Long|System|String|Boolean|Character|Byte|Short|Object|Thread|Class)\\.\\w+"));
        used.removeAll(Set.of("Arrays.fill", "Math.abs", "Math.max", "Math.min", "Math.floorMod", "Integer.bitCount", "Long.MIN_VALUE", "System.arraycopy"));
        none("the library", used);
    }

    private static void methodLengths(String text) {
        List<String> wrong = new ArrayList<>();
        String[] lines = text.split("\n");
        for (int i = 0; i < lines.length; i++) {
            if (!lines[i].matches(" {4,8}\\w.*\\) \\{")) continue;
            String indent = lines[i].replaceAll("\\w.*", "");
            int end = i;
            while (end < lines.length && !lines[end].equals(indent + "}")) {
                end++;
            }
            if (end - i + 1 > MOST_LINES) wrong.add(lines[i].trim());
        }
        none("methods too long", wrong);
    }
}
