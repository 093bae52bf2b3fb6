import java.net.URL;
import java.net.URLClassLoader;
import java.nio.file.Files;
import java.nio.file.Path;
import java.util.regex.Matcher;
import java.util.regex.Pattern;
import javax.tools.ToolProvider;

/** README.md: its example answers what it says, and no call of the document's face is left out. */
public final class ReadmeTest {
    private static final Path PAGE = Path.of("README.md");
    private static final Path DOCUMENT = Path.of("../shared/DOC.md");

    public static void main(String[] args) throws Exception {
        String page = Files.readString(PAGE);
        callsAreNamed(page);
        exampleIsRight(page);
        Due.end();
    }

    private static void callsAreNamed(String page) throws Exception {
        if (!Files.exists(DOCUMENT)) {
            System.out.println("no " + DOCUMENT + " here: whether README.md names each call was not looked at");
            return;
        }
        Matcher call = Pattern.compile("public (?:int|long) (\\w+\\([^)]*\\));").matcher(Files.readString(DOCUMENT));
        int calls = 0;
        while (call.find()) {
            calls++;
            String said = "`" + call.group(1).replace("int ", "") + "`";
            Due.isTrue("README.md names " + said, page.contains(said));
        }
        Due.is("calls of the face", calls, 38);
    }

    /** The example is compiled as it stands; only a call with a number beside it goes through check() below. */
    private static void exampleIsRight(String page) throws Exception {
        Matcher block = Pattern.compile("(?s)```java\n(.*?)```").matcher(page);
        Due.isTrue("README.md has an example", block.find());
        Matcher row = Pattern.compile("(?m)^(x\\.[^;]*);\\s*// (-?\\d+):").matcher(block.group(1));
        String body = row.replaceAll("ReadmeTest.check(\"$1\", $1, $2L); //");
        Due.isTrue("the example has answers", body.contains("ReadmeTest.check"));
        Path room = Files.createTempDirectory("readme");
        Path source = room.resolve("ReadmeExample.java");
        Files.writeString(source, "public class ReadmeExample { public static void main(String[] args) {\n"
                + body + "} }\n");
        int failed = ToolProvider.getSystemJavaCompiler().run(null, null, null, "-d", room.toString(), "-cp",
                System.getProperty("java.class.path"), source.toString());
        Due.is("errors of javac in the example", failed, 0);
        if (failed == 0) {
            runIn(room);
        }
        Files.deleteIfExists(room.resolve("ReadmeExample.class"));
        Files.delete(source);
        Files.delete(room);
    }

    private static void runIn(Path room) throws Exception {
        try (URLClassLoader loader = new URLClassLoader(new URL[] {room.toUri().toURL()})) {
            Class<?> example = loader.loadClass("ReadmeExample");
            example.getMethod("main", String[].class).invoke(null, (Object) new String[0]);
        }
    }

    /** Public, as the example is loaded by another loader and so stands in another package. */
    public static void check(String call, long got, long want) {
        Due.is("README.md: " + call, got, want);
    }
}
