import java.io.IOException;
import java.lang.reflect.Method;
import java.lang.reflect.Modifier;
import java.net.URL;
import java.net.URLClassLoader;
import java.nio.file.Files;
import java.nio.file.Path;
import java.util.stream.Stream;
import javax.tools.ToolProvider;

/** The example in README.md compiles, and ends as its comments say. Runs in the project's directory. */
public final class ReadmeTest {
    private static final String BEGIN = "```java\n";
    private static final String END = "```\n";

    public static void main(String[] args) throws Exception {
        String readme = Files.readString(Path.of("README.md"));
        StepCourt court = run(example(readme));
        Check.balances(court, 500, 1100, 900, 1300);
        Check.same("pot", court.pot(), 200);
        Check.noAssertion(court);
        Check.same("steps that stood", court.state(0), 3);
        Check.same("base", court.base(), court.truth(0));
        everyCallIsTold(readme);
        Check.finish();
    }

    private static String example(String readme) {
        int begin = readme.indexOf(BEGIN) + BEGIN.length();
        return readme.substring(begin, readme.indexOf(END, begin));
    }

    private static StepCourt run(String example) throws Exception {
        Path directory = Files.createTempDirectory("readme");
        try {
            Path source = directory.resolve("Example.java");
            Files.writeString(source, "public final class Example {\npublic static StepCourt play() {\n" + example
                    + "return court;\n}\n}\n");
            Check.same("javac", ToolProvider.getSystemJavaCompiler().run(null, null, null, "-cp",
                    System.getProperty("java.class.path"), "-d", directory.toString(), source.toString()), 0);
            try (URLClassLoader loader = new URLClassLoader(new URL[] {directory.toUri().toURL()})) {
                return (StepCourt) loader.loadClass("Example").getMethod("play").invoke(null);
            }
        } finally {
            removeAll(directory);
        }
    }

    private static void removeAll(Path directory) throws IOException {
        try (Stream<Path> files = Files.list(directory)) {
            for (Path file : files.toList()) {
                Files.delete(file);
            }
        }
        Files.delete(directory);
    }

    private static void everyCallIsTold(String readme) {
        for (Method method : StepCourt.class.getDeclaredMethods()) {
            if (Modifier.isPublic(method.getModifiers())) {
                Check.yes(method.getName() + " is told", readme.contains("| `" + method.getName() + "("));
            }
        }
    }
}
