import java.io.ByteArrayOutputStream;
import java.io.PrintStream;
import java.net.URL;
import java.net.URLClassLoader;
import java.nio.file.Files;
import java.nio.file.Path;
import javax.tools.ToolProvider;

/** The README's program can be compiled beside the class and prints what the README says. */
public final class ReadmeTest {
    public static void main(String[] args) throws Exception {
        String readme = Files.readString(Path.of("README.md"));
        String due = block(readme, "text").strip();
        String printed = printedBy(block(readme, "java")).strip();
        if (!printed.equals(due)) {
            System.out.println("the README's program prints\n" + printed + "\nthe README says\n" + due);
            System.exit(1);
        }
        System.out.println("the README's program prints what the README says");
    }

    private static String block(String readme, String language) {
        String opening = "\n```" + language + "\n";
        int from = readme.indexOf(opening);
        int till = from < 0 ? -1 : readme.indexOf("\n```\n", from + opening.length() - 1);
        if (till < 0) {
            System.out.println("the README has no block of " + language);
            System.exit(1);
        }
        return readme.substring(from + opening.length(), Math.max(till, from + opening.length()));
    }

    private static String printedBy(String program) throws Exception {
        Path room = Files.createTempDirectory("readme");
        Path source = room.resolve("Example.java");
        Path compiled = room.resolve("Example.class");
        PrintStream usual = System.out;
        ByteArrayOutputStream printed = new ByteArrayOutputStream();
        try (URLClassLoader loader = new URLClassLoader(new URL[] {room.toUri().toURL()})) {
            Files.writeString(source, program);
            String beside = System.getProperty("java.class.path");
            String[] options = {"-cp", beside, "-d", room.toString(), source.toString()};
            if (ToolProvider.getSystemJavaCompiler().run(null, null, null, options) != 0) {
                return "nothing, as it can't be compiled";
            }
            System.setOut(new PrintStream(printed, true));
            loader.loadClass("Example").getMethod("main", String[].class).invoke(null, (Object) new String[0]);
        } finally {
            System.setOut(usual);
            Files.deleteIfExists(source);
            Files.deleteIfExists(compiled);
            Files.deleteIfExists(room);
        }
        return printed.toString();
    }
}
