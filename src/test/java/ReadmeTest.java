import java.io.ByteArrayOutputStream;
import java.io.IOException;
import java.io.PrintStream;
import java.lang.reflect.Method;
import java.lang.reflect.Modifier;
import java.nio.file.Files;
import java.nio.file.Path;
import java.util.ArrayList;
import java.util.List;
import javax.tools.ToolProvider;

/** The example of README.md holds as it stands: it compiles, and prints what its comments tell. */
public final class ReadmeTest {
    private static final String FENCE = "```";

    public static void main(String[] args) throws Exception {
        String readme = Files.readString(Path.of("README.md"));
        String example = block(readme, "java");
        Checks.due("the example compiles", 0, () -> compile(example));
        List<String> printed = run();
        List<String> told = told(example);
        Checks.due("lines that the example prints", told.size(), printed::size);
        for (int i = 0; i < told.size() && i < printed.size(); i++) {
            String line = printed.get(i);
            Checks.due("the line " + i + " of the example", told.get(i), () -> line);
        }
        for (Method method : SharedLink.class.getDeclaredMethods()) {
            if (Modifier.isPublic(method.getModifiers())) {
                Checks.due("the example calls " + method.getName(), true, () -> example.contains("link." + method.getName() + "("));
            }
        }
        Checks.end("ReadmeTest");
    }

    private static String block(String readme, String language) {
        int from = readme.indexOf("\n" + FENCE + language + "\n");
        int begin = readme.indexOf('\n', from + 1) + 1;
        int end = readme.indexOf("\n" + FENCE, begin);
        return from < 0 || end < 0 ? "" : readme.substring(begin, end + 1);
    }

    /** Compiles into the folder that this test was compiled into. */
    private static int compile(String example) {
        try {
            Path folder = Path.of(ReadmeTest.class.getProtectionDomain().getCodeSource().getLocation().toURI());
            Path file = folder.resolve("Example.java");
            Files.writeString(file, example);
            String classes = folder.toString();
            return ToolProvider.getSystemJavaCompiler().run(null, null, null, "-cp", classes, "-d", classes, file.toString());
        } catch (IOException | java.net.URISyntaxException e) {
            throw new IllegalStateException(e);
        }
    }

    private static List<String> run() throws Exception {
        ByteArrayOutputStream bytes = new ByteArrayOutputStream();
        PrintStream before = System.out;
        System.setOut(new PrintStream(bytes, true, "UTF-8"));
        try {
            Class.forName("Example").getMethod("main", String[].class).invoke(null, (Object) new String[0]);
        } finally {
            System.setOut(before);
        }
        return bytes.toString("UTF-8").lines().toList();
    }

    /** What the comments behind the calls of tell say, up to the colon. */
    private static List<String> told(String example) {
        List<String> told = new ArrayList<>();
        for (String line : example.lines().toList()) {
            int comment = line.indexOf("// ");
            if (line.trim().startsWith("tell(") && comment >= 0) {
                told.add(line.substring(comment + 3, line.indexOf(':', comment)));
            }
        }
        return told;
    }
}
