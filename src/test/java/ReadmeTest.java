import java.io.IOException;
import java.lang.reflect.Method;
import java.lang.reflect.Modifier;
import java.nio.file.Files;
import java.nio.file.Path;
import java.util.Comparator;
import java.util.List;
import java.util.TreeSet;
import java.util.regex.Matcher;
import java.util.regex.Pattern;
import java.util.stream.Stream;

/** The way that README.md gives for using the class, and for running its tests, works; run from the project's folder. */
final class ReadmeTest {
    private static final Path CLASS = Path.of("src/main/java/UnlikeFerry.java");
    private static final Due DUE = new Due();

    public static void main(String[] args) throws IOException, InterruptedException {
        String page = Files.readString(Path.of("README.md"));
        example(page);
        calls(page);
        tests(page);
        DUE.finish("ReadmeTest");
    }

    private static void holds(String words, boolean is) {
        DUE.is("README.md: " + words, is ? 1 : 0, 1);
    }

    /** The first block of a language; empty, if there is none. */
    private static String block(String page, String language) {
        Matcher found = Pattern.compile("(?s)```" + language + "\n(.*?)```").matcher(page);
        return found.find() ? found.group(1) : "";
    }

    /** In a folder that holds the class and the example alone, so that nothing else can help. */
    private static void example(String page) throws IOException, InterruptedException {
        Path folder = Files.createTempDirectory("readme");
        try {
            Path copy = folder.resolve(CLASS);
            Files.createDirectories(copy.getParent());
            Files.copy(CLASS, copy);
            String code = block(page, "java");
            Matcher name = Pattern.compile("class (\\w+)").matcher(code);
            holds("the example is a class", name.find());
            Files.writeString(folder.resolve(name.group(1) + ".java"), code);
            String commands = block(page, "sh");
            holds("the example is compiled and run", commands.contains("javac ") && commands.contains("java -cp "));
            Process process = new ProcessBuilder("sh", "-e", "-c", commands).directory(folder.toFile())
                .redirectErrorStream(true).start();
            String printed = new String(process.getInputStream().readAllBytes());
            DUE.is("README.md: the example ends with", process.waitFor(), 0);
            holds("the example printed\n" + printed, !printed.isEmpty() && printed.equals(block(page, "text")));
        } finally {
            remove(folder);
        }
    }

    private static void remove(Path folder) throws IOException {
        try (Stream<Path> inside = Files.walk(folder)) {
            List<Path> innerFirst = inside.sorted(Comparator.reverseOrder()).toList();
            for (Path path : innerFirst) {
                Files.delete(path);
            }
        }
    }

    private static void calls(String page) {
        TreeSet<String> there = new TreeSet<>();
        for (Method m : UnlikeFerry.class.getDeclaredMethods()) {
            if (Modifier.isPublic(m.getModifiers())) {
                there.add(m.getName());
            }
        }
        String table = page.substring(page.indexOf("### The calls"), page.indexOf("## Tests"));
        TreeSet<String> told = named(table, "\\w+");
        holds("the calls that it tells " + told, told.equals(there));
    }

    private static void tests(String page) throws IOException {
        holds("the tests are run by .ci/run", block(page.substring(page.indexOf("## Tests")), "sh").equals(".ci/run\n"));
        holds(".ci/run can be run", Files.isExecutable(Path.of(".ci/run")));
        TreeSet<String> there = new TreeSet<>();
        try (Stream<Path> files = Files.list(Path.of("src/test/java"))) {
            for (Path file : files.toList()) {
                String name = file.getFileName().toString();
                if (name.endsWith("Test.java")) {
                    there.add(name.substring(0, name.length() - ".java".length()));
                }
            }
        }
        TreeSet<String> told = named(page.substring(page.indexOf("## Tests")), "\\w+Test");
        holds("the tests that it tells " + told, told.equals(there));
    }

    /** The names in the first column of the tables of a page. */
    private static TreeSet<String> named(String page, String form) {
        TreeSet<String> names = new TreeSet<>();
        for (String line : page.split("\n")) {
            if (line.startsWith("| `")) {
                Matcher name = Pattern.compile("`(" + form + ")`").matcher(line.substring(1, line.indexOf('|', 1)));
                while (name.find()) {
                    names.add(name.group(1));
                }
            }
        }
        return names;
    }
}
