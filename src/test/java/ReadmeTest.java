import java.io.ByteArrayOutputStream;
import java.io.IOException;
import java.io.PrintStream;
import java.lang.reflect.Method;
import java.lang.reflect.Modifier;
import java.net.URL;
import java.net.URLClassLoader;
import java.nio.file.DirectoryStream;
import java.nio.file.Files;
import java.nio.file.Path;
import java.util.ArrayList;
import java.util.List;
import java.util.regex.Matcher;
import java.util.regex.Pattern;
import java.util.stream.Stream;
import javax.tools.ToolProvider;

/** README.md: its program prints what it says, and it names every call of the face and every test. */
public final class ReadmeTest {
    public static void main(String[] args) throws IOException, ReflectiveOperationException {
        String page = Files.readString(Path.of("README.md"));
        program(page);
        for (Method call : WavingDesks.class.getDeclaredMethods()) {
            if (Modifier.isPublic(call.getModifiers())) {
                String shape = shapeOf(call);
                Due.is("README.md tells " + shape, Pattern.compile(shape).matcher(page).find(), true);
            }
        }
        try (DirectoryStream<Path> tests = Files.newDirectoryStream(Path.of("src/test/java"), "*Test.java")) {
            for (Path test : tests) {
                String name = test.getFileName().toString().replace(".java", "");
                Due.is("README.md tells " + name, page.contains("`" + name + "`"), true);
            }
        }
        Due.is("README.md tells how to run the tests", page.contains("```sh\n.ci/run\n```"), true);
        Due.end("ReadmeTest");
    }

    /** The call's name with as many names in its parentheses as it takes. */
    private static String shapeOf(Method call) {
        int many = call.getParameterCount();
        String inside = many == 0 ? "" : "\\w+(, \\w+){" + (many - 1) + "}";
        return "`" + call.getName() + "\\(" + inside + "\\)`";
    }

    private static void program(String page) throws IOException, ReflectiveOperationException {
        Matcher block = Pattern.compile("(?s)```java\n(.*?)```").matcher(page);
        Due.is("README.md has a program", block.find(), true);
        String source = block.group(1);
        List<String> due = new ArrayList<>();
        Matcher said = Pattern.compile("\\); +// (\\S+)\n").matcher(source);
        while (said.find()) {
            due.add(said.group(1));
        }
        Path room = Files.createTempDirectory("readme");
        try {
            Path file = Files.writeString(room.resolve("Example.java"), source);
            int compiled = ToolProvider.getSystemJavaCompiler().run(null, null, null, "-cp",
                System.getProperty("java.class.path"), "-d", room.toString(), file.toString());
            Due.is("README.md's program compiles", compiled, 0);
            Due.is("what README.md's program prints", compiled == 0 ? printed(room) : List.of(), due);
            Due.is("it prints something", due.isEmpty(), false);
        } finally {
            empty(room);
        }
    }

    private static List<String> printed(Path room) throws IOException, ReflectiveOperationException {
        PrintStream before = System.out;
        ByteArrayOutputStream bytes = new ByteArrayOutputStream();
        try (URLClassLoader classes = new URLClassLoader(new URL[] {room.toUri().toURL()})) {
            System.setOut(new PrintStream(bytes, true));
            classes.loadClass("Example").getMethod("main", String[].class).invoke(null, (Object) new String[0]);
        } finally {
            System.setOut(before);
        }
        return bytes.toString().lines().toList();
    }

    private static void empty(Path room) throws IOException {
        try (Stream<Path> files = Files.list(room)) {
            for (Path file : files.toList()) {
                Files.delete(file);
            }
        }
        Files.delete(room);
    }
}
