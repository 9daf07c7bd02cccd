import java.io.IOException;
import java.lang.reflect.Method;
import java.lang.reflect.Modifier;
import java.nio.charset.StandardCharsets;
import java.nio.file.Files;
import java.nio.file.Path;
import java.nio.file.StandardCopyOption;
import java.util.ArrayList;
import java.util.List;
import java.util.regex.Matcher;
import java.util.regex.Pattern;
import java.util.stream.Collectors;
import java.util.stream.Stream;

/** Follows README.md, and compares what is found then with what it says. It is run where README.md is. */
public final class ReadmeTest {
    private static final Path CLASS = Path.of("src/main/java/LibraryCirculation.java");

    public static void main(String[] args) throws IOException, InterruptedException {
        String readme = Files.readString(Path.of("README.md"));
        example(readme);
        methods(readme);
        settings(readme);
        errorCodes(readme);
        tests(readme);
        Due.end();
    }

    /** The example is saved and the commands are given as the README says, in a directory of its own. */
    private static void example(String readme) throws IOException, InterruptedException {
        String example = firstBlock(readme, "java");
        Path place = Path.of("build/readme");
        Files.createDirectories(place.resolve(CLASS).getParent());
        Files.copy(CLASS, place.resolve(CLASS), StandardCopyOption.REPLACE_EXISTING);
        Files.writeString(place.resolve("Example.java"), example);
        List<String> printed = run(firstBlock(readme, "sh"), place);
        List<String> told = answersTold(example);
        Due.holds("the example tells answers", told.size() > 20);
        Due.is("lines that the example prints", printed.size(), told.size());
        for (int i = 0; i < Math.min(printed.size(), told.size()); i++) {
            Due.holds("the example prints " + told.get(i), told.get(i).startsWith(printed.get(i) + ": "));
        }
    }

    /** The comment of each line that prints an answer. */
    private static List<String> answersTold(String example) {
        Pattern shown = Pattern.compile("show\\(desk\\..*\\);\\s*// (.*)");
        List<String> told = new ArrayList<>();
        for (String line : example.split("\n")) {
            Matcher matcher = shown.matcher(line);
            boolean isTold = matcher.find();
            if (isTold) told.add(matcher.group(1));
            Due.holds("each line of the example tells its answer: " + line, isTold || !line.contains("show(desk"));
        }
        return told;
    }

    private static String firstBlock(String readme, String language) {
        String[] parts = readme.split("```" + language + "\n", 2);
        Due.holds("the README has a block of " + language, parts.length == 2);
        return parts.length == 2 ? parts[1].split("```", 2)[0] : "";
    }

    private static List<String> run(String commands, Path place) throws IOException, InterruptedException {
        Process process = new ProcessBuilder("sh", "-ec", commands).directory(place.toFile())
            .redirectErrorStream(true).start();
        String printed = new String(process.getInputStream().readAllBytes(), StandardCharsets.UTF_8);
        Due.is("the exit code of the commands", process.waitFor(), 0);
        return printed.lines().collect(Collectors.toList());
    }

    private static void methods(String readme) {
        for (Method method : LibraryCirculation.class.getDeclaredMethods()) {
            if (!Modifier.isPublic(method.getModifiers())) continue;
            Due.holds("the README tells of " + method.getName(), readme.contains("`" + method.getName() + "`"));
        }
    }

    /** The rows of settings in the README, held against a new desk. */
    private static void settings(String readme) {
        Matcher row = Pattern.compile("(?m)^\\| (\\d) \\| the .* \\| (\\d+) \\| (\\d+) \\| (\\d+) \\|$").matcher(readme);
        int rows = 0;
        while (row.find()) {
            int setting = Integer.parseInt(row.group(1));
            int from = Integer.parseInt(row.group(2));
            int to = Integer.parseInt(row.group(3));
            int first = Integer.parseInt(row.group(4));
            LibraryCirculation desk = new LibraryCirculation();
            Due.is("the row of a setting", setting, rows);
            Due.is("setting " + setting + " at first", desk.setting(setting), first);
            Due.is("setting " + setting + " below its range", desk.set(setting, from - 1), -1);
            Due.is("setting " + setting + " above its range", desk.set(setting, to + 1), -1);
            Due.is("setting " + setting + " at its lowest", desk.set(setting, from), first);
            Due.is("setting " + setting + " at its highest", desk.set(setting, to), from);
            rows++;
        }
        Due.is("the rows of settings", rows, 8);
    }

    private static void errorCodes(String readme) {
        Due.holds("BAD", readme.contains("| " + LibraryCirculation.BAD + " (`BAD`) |"));
        Due.holds("NONE", readme.contains("| " + LibraryCirculation.NONE + " (`NONE`) |"));
        Due.holds("FULL", readme.contains("| " + LibraryCirculation.FULL + " (`FULL`) |"));
    }

    private static void tests(String readme) throws IOException {
        try (Stream<Path> files = Files.list(Path.of("src/test/java"))) {
            for (Path file : files.sorted().collect(Collectors.toList())) {
                String name = file.getFileName().toString().replace(".java", "");
                Due.holds("the README tells of " + name, readme.contains("`" + name + "`"));
            }
        }
    }
}
