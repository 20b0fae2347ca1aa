import java.io.ByteArrayOutputStream;
import java.io.PrintStream;
import java.lang.reflect.Method;
import java.lang.reflect.Modifier;
import java.net.URL;
import java.net.URLClassLoader;
import java.nio.file.Files;
import java.nio.file.Path;
import java.util.regex.Matcher;
import java.util.regex.Pattern;
import javax.tools.ToolProvider;

/** README.md's example compiles and prints what stands there, and none of the face's calls is left out. */
public final class ReadmeTest {
    private static final Due due = new Due("ReadmeTest");

    public static void main(String[] args) throws Exception {
        String readme = Files.readString(Path.of("README.md"));
        String printed = run(block(readme, "java"));
        if (!printed.equals(block(readme, "text"))) {
            due.tell("the example prints\n" + printed);
        }
        for (Method method : RiverWage.class.getDeclaredMethods()) {
            if (Modifier.isPublic(method.getModifiers())) {
                due.is("it names " + method.getName(), readme.contains("`" + method.getName() + "`"), true);
            }
        }
        due.is("it says how to run the tests", readme.contains("    .ci/run\n"), true);
        try (var files = Files.newDirectoryStream(Path.of("src", "test", "java"), "*Test.java")) {
            for (Path file : files) {
                String test = file.getFileName().toString().replace(".java", "");
                due.is("it names " + test, readme.contains("`" + test + "`"), true);
            }
        }
        due.close();
    }

    private static String block(String readme, String language) {
        Matcher matcher = Pattern.compile("```" + language + "\n(.*?)```", Pattern.DOTALL).matcher(readme);
        due.is("a block of " + language, matcher.find(), true);
        return matcher.group(1);
    }

    private static String run(String program) throws Exception {
        Path room = Files.createTempDirectory("readme");
        Path source = Files.writeString(room.resolve("Example.java"), program);
        int fault = ToolProvider.getSystemJavaCompiler().run(null, null, null, "-Xlint:all", "-Werror",
            "-cp", System.getProperty("java.class.path"), "-d", room.toString(), source.toString());
        due.is("the example compiles", fault, 0);
        ByteArrayOutputStream printed = new ByteArrayOutputStream();
        PrintStream screen = System.out;
        try (URLClassLoader loader = new URLClassLoader(new URL[] {room.toUri().toURL()})) {
            System.setOut(new PrintStream(printed, true));
            loader.loadClass("Example").getMethod("main", String[].class).invoke(null, (Object) new String[0]);
        } finally {
            System.setOut(screen);
            try (var files = Files.list(room)) {
                for (Path file : files.toList()) {
                    Files.delete(file);
                }
            }
            Files.delete(room);
        }
        return printed.toString();
    }
}
