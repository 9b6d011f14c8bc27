import java.io.IOException;
import java.lang.reflect.Field;
import java.lang.reflect.Method;
import java.lang.reflect.Modifier;
import java.nio.file.Files;
import java.nio.file.Path;
import java.util.ArrayList;
import java.util.List;
import java.util.Set;
import java.util.TreeSet;
import java.util.regex.Matcher;
import java.util.regex.Pattern;

/** What of ../shared/LANGUAGE.md can be read off the source's words; it is run in the project's folder. */
public final class LanguageTest {
    private static final Path SOURCE = Path.of("src/main/java/AfternoonChange.java");
    private static final String[] FORBIDDEN = {"throw", "throws", "try", "catch", "finally", "synchronized", "assert",
        "package", "Object", "Random", "Thread", "File", "Exception", "hashCode", "toString", "volatile", "native"};
    private static final Set<String> LIBRARY = Set.of("Arrays.fill", "System.arraycopy", "Math.max", "Math.min",
        "Integer.bitCount");
    private static final Set<Class<?>> OF_STATIC_FIELDS = Set.of(int.class, long.class, boolean.class, char.class,
        String.class);
    private static final Pattern HEAD = Pattern.compile(
        "^( {4}| {8})(public|private|static|int|long|boolean|void|[A-Z]\\w*)\\b([^=;]*?)(\\w*)\\(([^)]*)\\) \\{$");

    /** A method or a constructor of the source, by its name. */
    private record Part(String name, boolean isMaker, int parameters, String body) {
    }

    public static void main(String[] args) throws IOException {
        String all = Files.readString(SOURCE);
        String code = all.replaceAll("(?s)/\\*.*?\\*/", "").replaceAll("//[^\n]*", "");
        words(all, code);
        library(code);
        List<Part> parts = parts(code.split("\n"));
        shortMethods(parts);
        depth(parts);
        classesInside();
        Due.end("LanguageTest");
    }

    private static void words(String all, String code) {
        for (String word : FORBIDDEN) {
            Due.holds("no " + word, !Pattern.compile("\\b" + word + "\\b").matcher(code).find());
        }
        Due.holds("no lambda", !code.contains("->"));
        Due.holds("no method reference", !code.contains("::"));
        Due.holds("no static block", !Pattern.compile("static\\s*\\{").matcher(code).find());
        Due.holds("plain signs alone", all.chars().allMatch(c -> c == '\n' || c >= 32 && c < 127));
    }

    private static void library(String code) {
        Matcher imports = Pattern.compile("import ([^;]*);").matcher(code);
        while (imports.find()) {
            Due.holds("import " + imports.group(1), imports.group(1).equals("java.util.Arrays"));
        }
        Set<String> used = new TreeSet<>();
        Matcher library = Pattern.compile("\\b(Arrays|System|Math|Integer|Long|String|Character)\\.(\\w+)")
            .matcher(code.replaceAll("import [^;]*;", ""));
        while (library.find()) {
            used.add(library.group());
        }
        used.removeAll(LIBRARY);
        Due.holds("outside the library: " + used, used.isEmpty());
    }

    private static List<Part> parts(String[] lines) {
        List<Part> parts = new ArrayList<>();
        for (int i = 0; i < lines.length; i++) {
            Matcher m = HEAD.matcher(lines[i]);
            if (m.matches()) {
                StringBuilder body = new StringBuilder();
                for (int j = i + 1; j < lines.length && !lines[j].equals(m.group(1) + "}"); j++) {
                    body.append(lines[j]).append('\n');
                }
                String name = m.group(4).isEmpty() ? m.group(2) : m.group(4);
                int parameters = m.group(5).isEmpty() ? 0 : m.group(5).split(",").length;
                parts.add(new Part(name, Character.isUpperCase(name.charAt(0)), parameters, body.toString()));
            }
        }
        Due.holds(parts.size() + " methods and constructors are found", parts.size() == declared());
        return parts;
    }

    /** As many as the compiled classes have, but for constructors that are not written out. */
    private static int declared() {
        int many = AfternoonChange.class.getDeclaredMethods().length + 1;
        for (Class<?> inside : AfternoonChange.class.getDeclaredClasses()) {
            many += inside.getDeclaredMethods().length;
            many += inside.getDeclaredConstructors()[0].getParameterCount() > 0 ? 1 : 0;
        }
        return many;
    }

    private static void shortMethods(List<Part> parts) {
        for (Part part : parts) {
            Due.holds(part.name() + " is short", part.body().split("\n").length <= 60);
            Due.holds(part.name() + " takes seven at most", part.parameters() <= 7);
            Due.holds(part.name() + " makes no object", part.isMaker() || !part.body().matches("(?s).*\\bnew\\b.*"));
        }
    }

    /** Calls that stand open at once, as if a name were that of every method that bears it: no fewer than there are. */
    private static void depth(List<Part> parts) {
        for (Part part : parts) {
            int deep = depthOf(part, parts, 1);
            Due.holds(part.name() + " goes " + deep + " deep, eight at most", deep <= 8);
        }
    }

    private static int depthOf(Part part, List<Part> parts, int above) {
        int deepest = above;
        for (Part other : parts) {
            // behind nine levels it is too deep anyway, or calls itself
            if (above <= 8 && part.body().matches("(?s).*\\b" + other.name() + "\\(.*")) {
                deepest = Math.max(deepest, depthOf(other, parts, above + 1));
            }
        }
        return deepest;
    }

    private static void classesInside() {
        Class<?> face = AfternoonChange.class;
        Set<String> names = new TreeSet<>();
        for (Method m : face.getDeclaredMethods()) {
            if (Modifier.isPublic(m.getModifiers())) {
                names.add(m.getName());
            }
        }
        Due.holds("some twelve classes", face.getDeclaredClasses().length + 1 <= 12);
        fields(face);
        for (Class<?> inside : face.getDeclaredClasses()) {
            fields(inside);
            Due.is("classes inside " + inside, inside.getDeclaredClasses().length, 0);
            for (Method m : inside.getDeclaredMethods()) {
                Due.holds(m + " bears no public name", !names.contains(m.getName()));
            }
        }
    }

    private static void fields(Class<?> owner) {
        int many = 0;
        for (Field f : owner.getDeclaredFields()) {
            if (Modifier.isStatic(f.getModifiers())) {
                Due.holds(f + " is a constant", Modifier.isFinal(f.getModifiers()) && OF_STATIC_FIELDS.contains(f.getType()));
            } else {
                many++;
            }
        }
        Due.holds(owner + " has some twenty fields at most", many <= 20);
    }
}
