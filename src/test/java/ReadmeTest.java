import java.io.IOException;
import java.lang.reflect.Method;
import java.lang.reflect.Modifier;
import java.nio.file.Files;
import java.nio.file.Path;
import java.util.Arrays;
import java.util.Comparator;
import java.util.List;
import java.util.Set;
import java.util.TreeSet;
import java.util.regex.Matcher;
import java.util.regex.Pattern;
import java.util.stream.Collectors;
import java.util.stream.Stream;

/** What README.md shows is so; the project's directory is the argument. */
final class ReadmeTest {
    private ReadmeTest() {
    }

    public static void main(String[] args) throws Exception {
        Path project = Path.of(args[0]).toAbsolutePath();
        String page = Files.readString(project.resolve("README.md"));
        Due.says("README.md", "its example compiles against the class and answers as README.md says");
        example(project, page);
        Due.says("README.md", "The calls");
        calls(page);
        Due.says("README.md", "How to run the tests");
        tests(project, page);
        Due.finish("ReadmeTest");
    }

    /** The commands behind the example are run as they stand, in a place that has the class and the example. */
    private static void example(Path project, String page) throws Exception {
        Path place = Files.createTempDirectory("readme");
        try {
            copy(project.resolve("src"), place.resolve("src"));
            Files.writeString(place.resolve("Example.java"), block(page, "java", 0));
            List<String> is = printed(place, block(page, "sh", 0)).lines().toList();
            List<String> due = block(page, "text", 0).lines().toList();
            Due.is("lines that the example prints", is.size(), due.size());
            for (int i = 0; i < Math.min(is.size(), due.size()); i++) {
                Due.is("\"" + is.get(i) + "\" as \"" + due.get(i) + "\"", is.get(i).equals(due.get(i)), true);
            }
            Due.is("the example shows something", due.size() > 20, true);
            String test = printed(place, block(page, "sh", 1));
            Due.is("one test alone runs: " + test, test.matches("(?s)TextTest: \\d+ asked, 0 wrong\\s*"), true);
        } finally {
            wipe(place);
        }
    }

    private static String block(String page, String kind, int which) {
        Matcher block = Pattern.compile("(?s)```" + kind + "\n(.*?)```").matcher(page);
        boolean found = block.find();
        for (int i = 0; i < which && found; i++) {
            found = block.find();
        }
        Due.is("a block of " + kind, found, true);
        return found ? block.group(1) : "";
    }

    private static String printed(Path place, String commands) throws IOException, InterruptedException {
        Process process = new ProcessBuilder("sh", "-e", "-c", commands).directory(place.toFile())
                .redirectError(ProcessBuilder.Redirect.INHERIT).start();
        String printed = new String(process.getInputStream().readAllBytes());
        Due.is(commands + " ended with", process.waitFor(), 0);
        return printed;
    }

    private static void copy(Path from, Path to) throws IOException {
        try (Stream<Path> all = Files.walk(from)) {
            for (Path path : all.toList()) {
                Files.copy(path, to.resolve(from.relativize(path).toString()));
            }
        }
    }

    private static void wipe(Path place) throws IOException {
        try (Stream<Path> all = Files.walk(place)) {
            for (Path path : all.sorted(Comparator.reverseOrder()).toList()) {
                Files.delete(path);
            }
        }
    }

    /** Each method of the class is told once, with its types and as many numbers as it takes; and no other one. */
    private static void calls(String page) {
        Set<String> due = new TreeSet<>();
        for (Method m : AliasHouse.class.getDeclaredMethods()) {
            if (Modifier.isPublic(m.getModifiers())) {
                due.add(m.getReturnType() + " " + m.getName()
                        + Arrays.stream(m.getParameterTypes()).map(Class::getName).collect(Collectors.joining(", ", "(", ")")));
            }
        }
        Set<String> told = new TreeSet<>();
        Matcher row = Pattern.compile("(?m)^\\| `((?:int|boolean) \\w+)\\((.*?)\\)` \\|").matcher(page);
        while (row.find()) {
            String types = row.group(2).replaceAll("(int|boolean) \\w+", "$1");
            Due.is("told once: " + row.group(), told.add(row.group(1) + "(" + types + ")"), true);
        }
        System.out.print(told.equals(due) ? "" : "told are " + told + ", there are " + due + "\n");
        Due.is("the calls are those of the class", told.equals(due), true);
    }

    private static void tests(Path project, String page) throws IOException {
        Set<String> due = new TreeSet<>();
        try (Stream<Path> files = Files.list(project.resolve("src/test/java"))) {
            files.map(file -> file.getFileName().toString()).filter(name -> name.endsWith("Test.java"))
                    .forEach(name -> due.add(name.substring(0, name.length() - ".java".length())));
        }
        Set<String> told = new TreeSet<>();
        Matcher row = Pattern.compile("(?m)^\\| (\\w+Test) \\|").matcher(page);
        while (row.find()) {
            told.add(row.group(1));
        }
        System.out.print(told.equals(due) ? "" : "told are " + told + ", there are " + due + "\n");
        Due.is("the tests are those of the project", told.equals(due), true);
        Due.is(".ci/run can be run", Files.isExecutable(project.resolve(".ci/run")), true);
    }
}
