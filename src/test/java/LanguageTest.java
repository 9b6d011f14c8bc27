import java.io.IOException;
import java.nio.file.Files;
import java.nio.file.Path;
import java.util.Set;
import java.util.TreeSet;
import java.util.regex.Matcher;
import java.util.regex.Pattern;

/** What of ../shared/LANGUAGE.md can be read off the source's words; it is run in the project's folder. */
public final class LanguageTest {
    private static final Path SOURCE = Path.of("src/main/java/AfternoonChange.java");
    private static final String[] FORBIDDEN = {"throw", "throws", "try", "catch", "finally", "synchronized", "assert",
        "package", "Object", "Random", "Thread", "File", "Exception", "hashCode", "toString", "volatile", "native"};
    private static final Set<String> LIBRARY = Set.of("Arrays.fill", "System.arraycopy", "Math.max", "Math.min",
        "Integer.bitCount", "Integer.MIN_VALUE", "Long.MIN_VALUE");

    public static void main(String[] args) throws IOException {
        String all = Files.readString(SOURCE);
        String code = all.replaceAll("(?s)/\\*.*?\\*/", "").replaceAll("//[^\n]*", "");
        for (String word : FORBIDDEN) {
            Due.holds("no " + word, !Pattern.compile("\\b" + word + "\\b").matcher(code).find());
        }
        Due.holds("no lambda", !code.contains("->"));
        Due.holds("no method reference", !code.contains("::"));
        Due.holds("no static block", !Pattern.compile("static\\s*\\{").matcher(code).find());
        Due.holds("plain signs alone", all.chars().allMatch(c -> c == '\n' || c >= 32 && c < 127));
        Matcher imports = Pattern.compile("import ([^;]*);").matcher(code);
        while (imports.find()) {
            Due.holds("import " + imports.group(1), imports.group(1).equals("java.util.Arrays"));
        }
        Set<String> used = new TreeSet<>();
        Matcher library = Pattern.compile("\\b(Arrays|System|Math|Integer|Long)\\.(\\w+)").matcher(code.replaceAll("import [^;]*;", ""));
        while (library.find()) {
            used.add(library.group());
        }
        used.removeAll(LIBRARY);
        Due.holds("outside the library: " + used, used.isEmpty());
        Due.holds("some twelve classes", code.split("\\bclass\\b").length - 1 <= 12);
        methods(all.split("\n"));
        Due.end("LanguageTest");
    }

    private static void methods(String[] lines) {
        Pattern head = Pattern.compile("^( {4}| {8})(public|private|static|int|long|boolean|void|[A-Z]\\w*)\\b[^=;]*\\(([^)]*)\\) \\{$");
        for (int i = 0; i < lines.length; i++) {
            Matcher m = head.matcher(lines[i]);
            if (m.matches()) {
                int end = i;
                while (!lines[end].equals(m.group(1) + "}")) {
                    end++;
                }
                Due.holds(lines[i].trim() + " is short", end - i <= 60);
                Due.holds(lines[i].trim() + " takes seven at most", m.group(3).split(",").length <= 7);
            }
        }
    }
}
