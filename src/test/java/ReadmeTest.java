import java.io.IOException;
import java.net.URL;
import java.net.URLClassLoader;
import java.nio.charset.StandardCharsets;
import java.nio.file.Files;
import java.nio.file.Path;
import java.util.Comparator;
import java.util.List;
import java.util.regex.Matcher;
import java.util.regex.Pattern;
import java.util.stream.Stream;
import javax.tools.ToolProvider;

/** Makes a program of the examples of README.md, one after the other, and looks whether they answer as it says. */
public final class ReadmeTest {
    private static final int FEWEST_ANSWERS = 30;
    private static final Pattern BLOCK = Pattern.compile("```java\n(.*?)```", Pattern.DOTALL);
    private static final Pattern ANSWER = Pattern.compile("(?:int (\\w+) = )?(.*?); *// -> (-?\\d+|[A-Z]+)\\b.*");

    public static void main(String[] args) throws Exception {
        StringBuilder members = new StringBuilder();
        StringBuilder calls = new StringBuilder();
        int answers = 0;
        Matcher block = BLOCK.matcher(Files.readString(Path.of("README.md"), StandardCharsets.UTF_8));
        while (block.find()) {
            if (block.group(1).startsWith("static ")) {
                members.append(block.group(1));
                continue;
            }
            for (String line : block.group(1).split("\n")) {
                Matcher answer = ANSWER.matcher(line);
                answers += answer.matches() ? 1 : 0;
                calls.append(answer.matches() ? withItsAnswer(answer) : line).append('\n');
            }
        }
        String program = "public class Readme {\n" + members
            + "static int wrong = 0;\n"
            + "static void due(String call, int got, int want) {\n"
            + "if (got != want) { wrong++; System.out.println(call + \" answered \" + got + \", README says \" + want); }\n"
            + "}\n"
            + "public static int wrongAnswers() {\n" + calls + "return wrong;\n}\n}\n";
        int wrong = wrongAnswersOf(program);
        if (wrong != 0 || answers < FEWEST_ANSWERS) {
            System.out.println(wrong + " of the " + answers + " answers in README.md are wrong");
            System.exit(1);
        }
        System.out.println("the " + answers + " answers in README.md are right");
    }

    private static String withItsAnswer(Matcher line) {
        String name = line.group(1);
        String call = line.group(2);
        String want = Character.isLetter(line.group(3).charAt(0)) ? "PlaceRegister." + line.group(3) : line.group(3);
        String quoted = call.replace("\"", "\\\"");
        return name == null ? "due(\"" + quoted + "\", " + call + ", " + want + ");"
            : "int " + name + " = " + call + "; due(\"" + quoted + "\", " + name + ", " + want + ");";
    }

    private static int wrongAnswersOf(String program) throws Exception {
        Path room = Files.createTempDirectory("readme");
        try {
            Path source = Files.writeString(room.resolve("Readme.java"), program);
            int failed = ToolProvider.getSystemJavaCompiler().run(null, null, null, "-d", room.toString(),
                "-cp", System.getProperty("java.class.path"), source.toString());
            if (failed != 0) {
                System.out.println("the examples of README.md do not compile");
                return -1;
            }
            try (URLClassLoader loader = new URLClassLoader(
                    new URL[] {room.toUri().toURL()}, ReadmeTest.class.getClassLoader())) {
                return (Integer) loader.loadClass("Readme").getMethod("wrongAnswers").invoke(null);
            }
        } finally {
            remove(room);
        }
    }

    private static void remove(Path room) throws IOException {
        List<Path> all;
        try (Stream<Path> found = Files.walk(room)) {
            all = found.sorted(Comparator.reverseOrder()).toList();
        }
        for (Path one : all) {
            Files.delete(one);
        }
    }
}
