import java.io.IOException;
import java.nio.charset.StandardCharsets;
import java.nio.file.Files;
import java.nio.file.Path;
import java.util.ArrayList;
import java.util.List;
import java.util.regex.Matcher;
import java.util.regex.Pattern;

/** The example of README.md, compiled and run by the commands of README.md, answers what README.md says behind each call. */
public final class ReadmeTest {
    private static final Path README = Path.of("README.md");
    private static final Path PROGRAM = Path.of("src/main/java/WatchBill.java");
    private static final Pattern ANSWERED = Pattern.compile("println\\((.*)\\); *// (-?[0-9]+)");

    public static void main(String[] args) throws IOException, InterruptedException {
        String readme = Files.readString(README);
        String example = blockOf(readme, "java");
        List<String> calls = new ArrayList<>();
        List<String> want = new ArrayList<>();
        Matcher matcher = ANSWERED.matcher(example);
        while (matcher.find()) {
            calls.add(matcher.group(1));
            want.add(matcher.group(2));
        }
        List<String> got = outputOf(example, blockOf(readme, "sh"));
        int wrong = calls.isEmpty() || got.size() != want.size() ? 1 : 0;
        if (wrong != 0) System.out.println("README.md tells " + want.size() + " answers, its example gives " + got);
        for (int i = 0; i < Math.min(got.size(), want.size()); i++) {
            if (!got.get(i).equals(want.get(i))) {
                wrong++;
                System.out.println("README.md: " + calls.get(i) + " answered " + got.get(i) + ", told is " + want.get(i));
            }
        }
        System.out.println(wrong == 0 ? "the example is as told" : wrong + " things are not as told");
        if (wrong != 0) System.exit(1);
    }

    /** The first block of this kind; empty, if there is none. */
    private static String blockOf(String text, String kind) {
        Matcher matcher = Pattern.compile("^```" + kind + "\n(.*?)^```$", Pattern.MULTILINE | Pattern.DOTALL).matcher(text);
        return matcher.find() ? matcher.group(1) : "";
    }

    /** In a directory of its own that has the class where the project has it, so that nothing is left in the project. */
    private static List<String> outputOf(String example, String commands) throws IOException, InterruptedException {
        Path directory = Files.createTempDirectory("readme");
        try {
            Files.createDirectories(directory.resolve(PROGRAM).getParent());
            Files.copy(PROGRAM, directory.resolve(PROGRAM));
            Files.writeString(directory.resolve("Example.java"), example);
            Process process = new ProcessBuilder("sh", "-ec", commands).directory(directory.toFile()).redirectErrorStream(true).start();
            String output = new String(process.getInputStream().readAllBytes(), StandardCharsets.UTF_8);
            return process.waitFor() == 0 ? output.lines().toList() : List.of("a failure: " + output);
        } finally {
            remove(directory);
        }
    }

    private static void remove(Path directory) throws IOException {
        List<Path> paths;
        try (var found = Files.walk(directory)) {
            paths = found.sorted(java.util.Comparator.reverseOrder()).toList();
        }
        for (Path path : paths) Files.delete(path);
    }
}
