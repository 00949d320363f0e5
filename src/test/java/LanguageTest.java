import java.io.IOException;
import java.nio.file.Files;
import java.nio.file.Path;
import java.util.Set;
import java.util.TreeSet;
import java.util.regex.Matcher;
import java.util.regex.Pattern;

/** The rules of LANGUAGE.md that can be seen in the text of the class; the document asks for no exception and no library. */
public final class LanguageTest {
    private static final Path PROGRAM = Path.of("src/main/java/WatchBill.java");
    private static final int MOST_LINES = 60;
    private static int wrong = 0;

    public static void main(String[] args) throws IOException {
        String code = withoutComments(Files.readString(PROGRAM));
        none("rule 4, no library and no package", code, "\\b(import|package)\\b|\\bjava\\.");
        none("rules 2 and 4, no lambda, method reference or annotation", code, "->|::|@");
        none("rule 5, no static initialiser", code, "\\bstatic\\s*\\{");
        none("rule 6, no exception", code, "\\b(try|catch|finally|throw|throws|assert|synchronized)\\b");
        none("rule 6, no cast to a class", code, "\\([A-Z][a-z]\\w*(\\[\\])*\\)\\s*[\\w(]");
        none("rule 7, no divisor but a written number that is not 0", code, "[/%]=?\\s*(?![1-9])\\S+");
        none("rule 9, no loop without a bound", code, "\\bwhile\\b|\\bfor\\s*\\([^;)]*;\\s*;");
        ownClassesAlone(code);
        shortMethods(code);
        System.out.println(wrong == 0 ? "the text keeps to the rules" : wrong + " places are outside the rules");
        if (wrong != 0) System.exit(1);
    }

    /** What is left stands on the same lines as before. */
    private static String withoutComments(String text) {
        Matcher comment = Pattern.compile("/\\*.*?\\*/|//[^\n]*", Pattern.DOTALL).matcher(text);
        return comment.replaceAll(found -> "\n".repeat((int) found.group().chars().filter(c -> c == '\n').count()));
    }

    private static void none(String rule, String code, String pattern) {
        Matcher matcher = Pattern.compile(pattern).matcher(code);
        while (matcher.find()) fail(rule, lineOf(code, matcher.start()), matcher.group());
    }

    private static void fail(String rule, int line, String what) {
        wrong++;
        System.out.println(rule + ": line " + line + ": " + what);
    }

    private static int lineOf(String code, int at) {
        return 1 + (int) code.substring(0, at).chars().filter(c -> c == '\n').count();
    }

    /** A name with a capital and a small letter is a class's; each must be one that the file has. */
    private static void ownClassesAlone(String code) {
        Set<String> own = new TreeSet<>();
        Matcher declared = Pattern.compile("\\bclass (\\w+)").matcher(code);
        while (declared.find()) own.add(declared.group(1));
        Matcher named = Pattern.compile("\\b[A-Z]\\w*[a-z]\\w*").matcher(code);
        while (named.find()) {
            if (!own.contains(named.group())) fail("rule 4, no class but its own", lineOf(code, named.start()), named.group());
        }
    }

    /** By the indentation of the first and the last line of a method. */
    private static void shortMethods(String code) {
        Matcher method = Pattern.compile("^( {4}| {8})\\S[^\n;=]*\\) \\{\n(.*?)^\\1\\}$", Pattern.MULTILINE | Pattern.DOTALL).matcher(code);
        int methods = 0;
        while (method.find()) {
            methods++;
            if (method.group(2).lines().count() > MOST_LINES) fail("rule 11, short methods", lineOf(code, method.start()), "a long one");
        }
        if (methods < WatchBill.class.getDeclaredMethods().length) fail("rule 11, short methods", 1, "not all methods were found");
    }
}
