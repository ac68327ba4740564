import java.io.ByteArrayOutputStream;
import java.io.PrintStream;
import java.net.URL;
import java.net.URLClassLoader;
import java.nio.charset.StandardCharsets;
import java.nio.file.Files;
import java.nio.file.Path;
import java.util.List;
import javax.tools.ToolProvider;

/** The program in README.md compiles, and prints what stands below it; every call of the face is told of there. */
public final class ReadmeTest {
    private static final List<String> CALLS = List.of("feed", "end", "secret", "user", "allow", "set", "port", "start",
            "move", "flip", "seen", "inject", "open", "exec", "write", "read", "finish", "rekey", "quit", "about",
            "channel", "count");

    public static void main(String[] args) throws Exception {
        String text = Files.readString(Path.of("README.md"));
        Path directory = Files.createTempDirectory("readme");
        Path source = directory.resolve("Example.java");
        try {
            Files.writeString(source, block(text, "java"));
            Check.due("the example prints", printed(directory, source), block(text, "text"));
        } finally {
            Files.deleteIfExists(source);
            Files.deleteIfExists(directory.resolve("Example.class"));
            Files.deleteIfExists(directory);
        }
        for (String call : CALLS) {
            Check.holds("README.md tells of " + call, text.contains("`" + call + "`"));
        }
        Check.close();
    }

    private static String printed(Path directory, Path source) throws Exception {
        int code = ToolProvider.getSystemJavaCompiler().run(null, null, null, "-cp",
                System.getProperty("java.class.path"), "-d", directory.toString(), source.toString());
        Check.due("the example compiles", code, 0);
        PrintStream before = System.out;
        ByteArrayOutputStream out = new ByteArrayOutputStream();
        URL[] places = {directory.toUri().toURL()};
        try (URLClassLoader loader = new URLClassLoader(places)) {
            System.setOut(new PrintStream(out, true));
            loader.loadClass("Example").getMethod("main", String[].class).invoke(null, (Object) new String[0]);
        } finally {
            System.setOut(before);
        }
        return out.toString(StandardCharsets.ISO_8859_1).replace("\r\n", "\n");
    }

    /** What stands between the first line that opens a block of that kind and the line that closes it. */
    private static String block(String text, String kind) {
        int from = text.indexOf("```" + kind + "\n") + kind.length() + 4;
        return text.substring(from, text.indexOf("```", from));
    }
}
