import java.io.ByteArrayOutputStream;
import java.io.IOException;
import java.io.PrintStream;
import java.lang.reflect.Method;
import java.lang.reflect.Modifier;
import java.net.URL;
import java.net.URLClassLoader;
import java.nio.charset.StandardCharsets;
import java.nio.file.Files;
import java.nio.file.Path;
import java.util.Set;
import java.util.TreeSet;
import java.util.regex.Matcher;
import java.util.regex.Pattern;
import java.util.stream.Stream;
import javax.tools.ToolProvider;

/** README.md: its example prints what it says, its commands are commands, and no call or test is left out. */
final class ReadmeTest {
    private static final Check check = new Check("ReadmeTest");

    private ReadmeTest() {
    }

    public static void main(String[] args) throws IOException, ReflectiveOperationException {
        String readme = Files.readString(Path.of("README.md"));
        check.same("what the example prints", block(readme, "text"), printed(block(readme, "java")));
        for (Method method : BathtubTides.class.getDeclaredMethods()) {
            if (Modifier.isPublic(method.getModifiers())) {
                check.same("README.md names " + method.getName(), true, readme.contains("`" + method.getName() + "`"));
            }
        }
        testCommands(readme);
        check.same("the tests that README.md names", tests(), found(readme, "(?m)^\\| ([A-Za-z]+Test) \\|"));
        check.same("README.md says how to run the tests", true, readme.contains("\n    .ci/run\n"));
        check.close();
    }

    private static String block(String readme, String kind) {
        String[] parts = readme.split("(?m)^```" + kind + "\n", -1);
        check.same("the blocks of " + kind, 2, parts.length);
        return parts[1].split("(?m)^```$")[0];
    }

    private static Set<String> found(String text, String pattern) {
        Set<String> found = new TreeSet<>();
        Matcher matcher = Pattern.compile(pattern).matcher(text);
        while (matcher.find()) {
            found.add(matcher.group(1));
        }
        return found;
    }

    private static Set<String> tests() throws IOException {
        Set<String> tests = new TreeSet<>();
        try (Stream<Path> files = Files.list(Path.of("src", "test", "java"))) {
            files.map(file -> file.getFileName().toString()).filter(name -> name.endsWith("Test.java"))
                    .forEach(name -> tests.add(name.replace(".java", "")));
        }
        return tests;
    }

    private static void testCommands(String readme) {
        String said = readme.split("A command text is ")[1].split("\n\n")[0];
        Set<String> commands = found(said, "`([^`]+)`");
        Set<String> words = new TreeSet<>();
        for (String command : commands) {
            words.add(command.split(" ")[0]);
            BathtubTides x = new BathtubTides();
            x.addHardMoon(1, 0, 1);
            x.layTowel(0, 0);
            if (command.startsWith("shave")) {
                x.placeToe(5);
            }
            x.insertPlug(0);
            check.same(command, 1, Check.execute(x, command));
        }
        check.same("the words of the commands", new TreeSet<>(Set.of("hard", "soft", "bubble", "remove", "toe", "shave",
                "plug", "pull", "towel", "wring", "flow", "wait")), words);
    }

    private static String printed(String program) throws IOException, ReflectiveOperationException {
        Path directory = Files.createTempDirectory("readme");
        Path source = directory.resolve("Example.java");
        PrintStream screen = System.out;
        ByteArrayOutputStream printed = new ByteArrayOutputStream();
        try {
            Files.writeString(source, program);
            int code = ToolProvider.getSystemJavaCompiler().run(null, null, null, "-Xlint:all", "-Werror", "-proc:none",
                    "-cp", System.getProperty("java.class.path"), "-d", directory.toString(), source.toString());
            check.same("the exit code of compiling the example", 0, code);
            try (URLClassLoader loader = new URLClassLoader(new URL[] {directory.toUri().toURL()})) {
                System.setOut(new PrintStream(printed, true, StandardCharsets.UTF_8));
                Method main = loader.loadClass("Example").getMethod("main", String[].class);
                main.invoke(null, (Object) new String[0]);
            }
        } finally {
            System.setOut(screen);
            Files.deleteIfExists(directory.resolve("Example.class"));
            Files.deleteIfExists(source);
            Files.deleteIfExists(directory);
        }
        return printed.toString(StandardCharsets.UTF_8).replace(System.lineSeparator(), "\n");
    }
}
