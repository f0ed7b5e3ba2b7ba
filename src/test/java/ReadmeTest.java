import java.nio.file.Files;
import java.nio.file.Path;
import java.util.Comparator;
import java.util.List;
import java.util.regex.Matcher;
import java.util.regex.Pattern;
import java.util.stream.Stream;

/** Compiles the example of README.md with the class, and holds what it prints against what the page says. */
public final class ReadmeTest {
    private static final Check check = new Check();

    public static void main(String[] args) throws Exception {
        String page = Files.readString(Path.of("README.md"));
        Path folder = Files.createTempDirectory("readme");
        try {
            example(page, folder);
        } finally {
            remove(folder);
        }
        check.close();
    }

    private static void example(String page, Path folder) throws Exception {
        Path source = folder.resolve("Example.java");
        Files.writeString(source, block(page, "java"));
        check.about("README.md");
        String out = folder.toString();
        check.due("javac of the example says nothing",
            run("javac", "-d", out, "src/main/java/LoanBook.java", source.toString()).length(), 0);
        List<String> printed = run("java", "-cp", out, "Example").lines().toList();
        List<String> due = block(page, "text").lines().toList();
        check.due("how many lines the example prints", printed.size(), due.size());
        for (int i = 0; i < Math.min(printed.size(), due.size()); i++) {
            check.due("the example prints '" + printed.get(i) + "' for '" + due.get(i) + "'",
                printed.get(i).equals(due.get(i)) ? 1 : 0, 1);
        }
    }

    private static String block(String page, String kind) {
        Matcher block = Pattern.compile("(?s)```" + kind + "\n(.*?)```").matcher(page);
        boolean isThere = block.find();
        check.due("a block of " + kind, isThere ? 1 : 0, 1);
        return isThere ? block.group(1) : "";
    }

    private static String run(String... command) throws Exception {
        Process process = new ProcessBuilder(command).redirectErrorStream(true).start();
        String said = new String(process.getInputStream().readAllBytes());
        check.due(String.join(" ", command) + " ends with", process.waitFor(), 0);
        return said;
    }

    private static void remove(Path folder) throws Exception {
        try (Stream<Path> inside = Files.walk(folder)) {
            for (Path path : inside.sorted(Comparator.reverseOrder()).toList()) {
                Files.delete(path);
            }
        }
    }
}
