import java.io.ByteArrayOutputStream;
import java.io.File;
import java.io.PrintStream;
import java.lang.reflect.Method;
import java.lang.reflect.Modifier;
import java.net.URL;
import java.net.URLClassLoader;
import java.nio.file.Files;
import java.nio.file.Path;
import java.util.ArrayList;
import java.util.List;
import javax.tools.ToolProvider;

/**
 * README.md: its Java code compiles, and what it prints is what the comments say. It names every call of the
 * face and every test.
 */
final class ReadmeTest {
    private static final Check CHECK = new Check("ReadmeTest");
    private static final String PRINT = "System.out.println(";
    private static final String COMMENT = "// ";

    public static void main(String[] args) throws Exception {
        List<String> page = Files.readAllLines(Path.of("README.md"));
        List<List<String>> blocks = blocks(page);
        CHECK.is("blocks of Java code", 8, blocks.size());
        List<String> due = new ArrayList<>();
        for (List<String> block : blocks) {
            due.addAll(promised(block));
        }
        List<String> got = printed(program(blocks));
        for (int i = 0; i < Math.max(due.size(), got.size()); i++) {
            CHECK.isText("line " + i, i < due.size() ? due.get(i) : "no line", i < got.size() ? got.get(i) : "no line");
        }
        names(String.join("\n", page));
        CHECK.end();
    }

    private static List<List<String>> blocks(List<String> page) {
        List<List<String>> blocks = new ArrayList<>();
        List<String> block = null;
        for (String line : page) {
            if (line.equals("```java")) {
                block = new ArrayList<>();
            } else if (line.equals("```") && block != null) {
                blocks.add(block);
                block = null;
            } else if (block != null) {
                block.add(line);
            }
        }
        return blocks;
    }

    /** What the comments behind the printing lines say, up to a colon. */
    private static List<String> promised(List<String> block) {
        List<String> lines = new ArrayList<>();
        for (String line : block) {
            int comment = line.indexOf(COMMENT);
            if (line.trim().startsWith(PRINT) && comment >= 0) {
                lines.add(line.substring(comment + COMMENT.length()).split(":")[0]);
            }
        }
        return lines;
    }

    /** Methods stand beside main, all other blocks in it, one after the other. */
    private static String program(List<List<String>> blocks) {
        StringBuilder body = new StringBuilder();
        StringBuilder methods = new StringBuilder();
        for (List<String> block : blocks) {
            StringBuilder place = block.get(0).startsWith("static ") ? methods : body;
            place.append(String.join("\n", block)).append('\n');
        }
        return "public class Readme {\n" + methods + "public static void main(String[] args) {\n" + body + "}\n}\n";
    }

    private static List<String> printed(String program) throws Exception {
        Path place = Files.createDirectories(Path.of("build", "readme"));
        Path source = place.resolve("Readme.java");
        Files.writeString(source, program);
        int failed = ToolProvider.getSystemJavaCompiler().run(null, null, null,
                "-d", place.toString(), "-cp", System.getProperty("java.class.path"), source.toString());
        CHECK.is("the code compiles", 0, failed);
        PrintStream screen = System.out;
        ByteArrayOutputStream bytes = new ByteArrayOutputStream();
        try (URLClassLoader loader = new URLClassLoader(new URL[] {place.toUri().toURL()})) {
            System.setOut(new PrintStream(bytes, true));
            Class.forName("Readme", true, loader).getMethod("main", String[].class).invoke(null, (Object) new String[0]);
        } finally {
            System.setOut(screen);
        }
        return List.of(bytes.toString().split(System.lineSeparator()));
    }

    private static void names(String page) {
        for (Method method : PennyBakery.class.getDeclaredMethods()) {
            if (Modifier.isPublic(method.getModifiers())) {
                CHECK.is("names " + method.getName(), 1, page.contains('`' + method.getName() + '`') ? 1 : 0);
            }
        }
        for (String file : new File("tests").list()) {
            if (file.endsWith("Test.java")) {
                CHECK.is("names " + file, 1, page.contains('`' + file.replace(".java", "") + '`') ? 1 : 0);
            }
        }
    }
}
