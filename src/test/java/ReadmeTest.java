import java.io.IOException;
import java.nio.charset.StandardCharsets;
import java.nio.file.Files;
import java.nio.file.Path;
import java.nio.file.Paths;
import java.util.ArrayList;
import java.util.Comparator;
import java.util.List;
import java.util.stream.Collectors;
import java.util.stream.Stream;

/** Does what README.md says, in a copy of the project: its program, its commands, and what they print. */
public final class ReadmeTest {
    private static String readme;

    public static void main(String[] args) throws IOException, InterruptedException {
        readme = Files.readString(Paths.get("README.md"), StandardCharsets.UTF_8);
        Path copy = Files.createTempDirectory("readme");
        try {
            copyTree(Paths.get("src"), copy.resolve("src"));
            example(copy);
            oneTestAlone(copy);
        } finally {
            removeTree(copy);
        }
        namesEachCall();
        namesEachTest();
        Due.end();
    }

    private static void example(Path copy) throws IOException, InterruptedException {
        Files.writeString(copy.resolve("Example.java"), block("java", 0), StandardCharsets.UTF_8);
        Due.same("README's example prints", run(copy, block("sh", 0)), block("text", 0));
    }

    private static void oneTestAlone(Path copy) throws IOException, InterruptedException {
        String printed = run(copy, block("sh", 1));
        Due.same("README's single test passes: " + printed, printed.endsWith(" answers, 0 of them not as due\n"), true);
    }

    private static void namesEachCall() {
        for (java.lang.reflect.Method method : BudgetJury.class.getMethods()) {
            if (method.getDeclaringClass() == BudgetJury.class) {
                Due.same("README names " + method.getName(), readme.contains("`" + method.getName()), true);
            }
        }
    }

    private static void namesEachTest() throws IOException {
        try (Stream<Path> files = Files.list(Paths.get("src/test/java"))) {
            for (Path file : files.collect(Collectors.toList())) {
                String name = file.getFileName().toString().replace(".java", "");
                Due.same("README names " + name, readme.contains("`" + name + "`"), true);
            }
        }
    }

    /** What stands between a fence with a language and the next fence, counted from 0. */
    private static String block(String language, int which) {
        List<String> blocks = new ArrayList<>();
        String[] parts = readme.split("(?m)^```");
        for (int i = 1; i < parts.length; i += 2) {
            if (parts[i].startsWith(language + "\n")) {
                blocks.add(parts[i].substring(language.length() + 1));
            }
        }
        Due.same("README has enough blocks of " + language, blocks.size() > which, true);
        return blocks.size() > which ? blocks.get(which) : "";
    }

    /** What the commands print; at the first one that fails, its exit code as well. */
    private static String run(Path directory, String commands) throws IOException, InterruptedException {
        ProcessBuilder builder = new ProcessBuilder("sh", "-e", "-c", commands);
        // What a compiler or machine remarks by the way is no answer, so it goes to the log alone.
        builder.directory(directory.toFile()).redirectError(ProcessBuilder.Redirect.INHERIT);
        Process process = builder.start();
        process.getOutputStream().close();
        String printed = new String(process.getInputStream().readAllBytes(), StandardCharsets.UTF_8);
        int code = process.waitFor();
        return code == 0 ? printed : printed + "exit code " + code;
    }

    private static void copyTree(Path from, Path to) throws IOException {
        try (Stream<Path> files = Files.walk(from)) {
            for (Path file : files.collect(Collectors.toList())) {
                Path target = to.resolve(from.relativize(file));
                if (Files.isDirectory(file)) {
                    Files.createDirectories(target);
                } else {
                    Files.copy(file, target);
                }
            }
        }
    }

    private static void removeTree(Path root) throws IOException {
        try (Stream<Path> files = Files.walk(root)) {
            for (Path file : files.sorted(Comparator.reverseOrder()).collect(Collectors.toList())) {
                Files.delete(file);
            }
        }
    }
}
