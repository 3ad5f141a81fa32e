import java.io.IOException;
import java.nio.file.Files;
import java.nio.file.Path;
import java.util.List;
import java.util.Set;
import java.util.TreeSet;
import java.util.regex.Matcher;
import java.util.regex.Pattern;

/** Rules of LANGUAGE.md that can be seen in the program's text. Runs in the project's folder. */
public final class LanguageTest {
    private static final Check check = new Check("LanguageTest");

    private LanguageTest() {
    }

    private static String withoutComments(String text) {
        return text.replaceAll("(?s)/\\*.*?\\*/", "").replaceAll("//[^\n]*", "");
    }

    private static int found(String text, String pattern) {
        Matcher m = Pattern.compile(pattern).matcher(text);
        int many = 0;
        while (m.find()) {
            many++;
        }
        return many;
    }

    private static void words(String code) {
        for (String word : List.of("throw", "throws", "try", "catch", "synchronized", "assert", "package", "instanceof",
                "protected", "Object", "Thread", "Random", "hashCode", "toString", "volatile", "transient", "native",
                "String", "Integer", "Long", "double", "float")) {
            check.due("the word " + word, found(code, "\\b" + word + "\\b"), 0);
        }
        check.due("lambdas", found(code, "->"), 0);
        check.due("method references", found(code, "::"), 0);
        check.due("static blocks", found(code, "\\bstatic\\s*\\{"), 0);
        check.due("Exact", found(code, "Exact\\b"), 0);
        check.due("imports", found(code, "\\bimport\\b"), 1);
        check.due("import of Arrays", found(code, "import java\\.util\\.Arrays;"), 1);
        check.due("static fields that are not final", found(code, "\\bstatic\\s+(?!final|int \\w+\\(|boolean \\w+\\()"), 0);
        check.due("characters beyond 126", found(code, "[^\\n -~]"), 0);
    }

    private static void library(String code) {
        Set<String> used = new TreeSet<>();
        Matcher m = Pattern.compile("\\b(Arrays|Math|System)\\.(\\w+)").matcher(code);
        while (m.find()) {
            used.add(m.group());
        }
        check.holds("the library's " + used, Set.of("Arrays.fill", "Math.min", "System.arraycopy").containsAll(used));
    }

    /** A method's lines, from its head at four or eight blanks to the brace at the same depth. */
    private static void lengths(List<String> lines) {
        int start = -1;
        String close = "";
        for (int i = 0; i < lines.size(); i++) {
            String line = lines.get(i);
            if (start < 0 && line.matches("( {4}| {8})[a-z].*\\) \\{")) {
                start = i;
                close = line.replaceAll("\\S.*", "") + "}";
            } else if (start >= 0 && line.equals(close)) {
                check.holds("the method at line " + (start + 1) + " is short", i - start < 60);
                start = -1;
            }
        }
    }

    /** Rule 12: what a call makes is kept small; here no call makes anything. */
    private static void making(String code) {
        Matcher m = Pattern.compile("[^\\n]*\\bnew\\b[^\\n]*").matcher(code);
        while (m.find()) {
            String line = m.group().trim();
            check.holds("made with the object: " + line, line.startsWith("private final ") || line.startsWith("final ")
                || line.startsWith("private int[] ") || line.startsWith("int[] partOf ")
                || line.matches("(told|low|high|first) = new int\\[.*"));
        }
    }

    public static void main(String[] args) throws IOException {
        Path file = Path.of("src/main/java/ProtocolBench.java");
        String code = withoutComments(Files.readString(file));
        words(code);
        library(code);
        lengths(Files.readAllLines(file));
        making(code);
        check.finish();
    }
}
