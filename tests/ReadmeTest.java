import java.io.ByteArrayOutputStream;
import java.io.File;
import java.io.PrintStream;
import java.lang.reflect.Method;
import java.lang.reflect.Modifier;
import java.net.URL;
import java.net.URLClassLoader;
import java.nio.file.Files;
import java.nio.file.Path;
import java.util.regex.Matcher;
import java.util.regex.Pattern;
import javax.tools.ToolProvider;

/** What README.md tells: its program prints what it says, and its tables name each call, constant and test. */
public final class ReadmeTest {
    public static void main(String[] args) throws Exception {
        Path root = Path.of(args.length > 0 ? args[0] : ".");
        String text = Files.readString(root.resolve("README.md"));
        Due.due("the program prints what README.md tells", printed(root, block(text, "java")).equals(block(text, "text")));
        for (Method call : LadderClub.class.getDeclaredMethods()) {
            if (Modifier.isPublic(call.getModifiers())) {
                boolean told = Pattern.compile("\n\\| `" + call.getName() + "\\((\\w+(, )?){" + call.getParameterCount() + "}\\)` \\|")
                    .matcher(text).find();
                Due.due("README.md tells " + call.getName(), told);
            }
        }
        for (String constant : new String[] {"NONE", "BAD", "STATE", "FULL", "NO"}) {
            Due.due("README.md tells " + constant, text.contains("\n| `" + constant + "` ("));
        }
        for (File test : root.resolve("tests").toFile().listFiles((folder, name) -> name.endsWith("Test.java"))) {
            Due.due("README.md tells " + test.getName(), text.contains("`" + test.getName().replace(".java", "") + "`"));
        }
        Due.end();
    }

    private static String block(String text, String kind) {
        Matcher found = Pattern.compile("```" + kind + "\n(.*?)```", Pattern.DOTALL).matcher(text);
        return found.find() ? found.group(1) : "no block of " + kind;
    }

    private static String printed(Path root, String program) throws Exception {
        Path folder = Files.createTempDirectory("readme");
        Path file = Files.writeString(folder.resolve("Climb.java"), program);
        String source = root.resolve("src/main/java/LadderClub.java").toString();
        int code = ToolProvider.getSystemJavaCompiler().run(null, null, null, "-d", folder.toString(), source, file.toString());
        Due.due("the program compiles", code, 0);
        PrintStream out = System.out;
        ByteArrayOutputStream bytes = new ByteArrayOutputStream();
        try (URLClassLoader loader = new URLClassLoader(new URL[] {folder.toUri().toURL()}, null)) {
            System.setOut(new PrintStream(bytes, true));
            loader.loadClass("Climb").getMethod("main", String[].class).invoke(null, (Object) new String[0]);
        } finally {
            System.setOut(out);
            for (File made : folder.toFile().listFiles()) {
                made.delete();
            }
            Files.delete(folder);
        }
        return bytes.toString().replace(System.lineSeparator(), "\n");
    }
}
