import java.io.IOException;
import java.lang.reflect.Method;
import java.lang.reflect.Modifier;
import java.nio.file.DirectoryStream;
import java.nio.file.Files;
import java.nio.file.Path;
import java.util.ArrayList;
import java.util.List;

/** README.md: its example answers what it says there, and it names every call and every test. */
public final class ReadmeTest {
    private static final Check CHECK = new Check();
    private static final Path README = Path.of("README.md");
    private static final Path TESTS = Path.of("src/test/java");

    private final String text;
    private final List<String> example;
    private int line = 0;

    private ReadmeTest(String text) {
        this.text = text;
        this.example = linesOfExample(text);
    }

    public static void main(String[] args) throws IOException {
        ReadmeTest test = new ReadmeTest(Files.readString(README));
        test.exampleAnswersSo();
        test.everyCallIsNamed();
        test.everyTestIsNamed();
        CHECK.end();
    }

    private static List<String> linesOfExample(String text) {
        List<String> lines = new ArrayList<>();
        boolean inside = false;
        for (String line : text.split("\n")) {
            if (line.startsWith("```")) {
                inside = line.equals("```java");
            } else if (inside) {
                lines.add(line);
            }
        }
        return lines;
    }

    private void exampleAnswersSo() {
        makes("BubbleBox box = new BubbleBox();");
        BubbleBox box = new BubbleBox();
        makes("box.stuck(3, 1);");
        box.stuck(3, 1);
        answers("box.format();", box.format());
        int file = box.create(77);
        answers("int file = box.create(77);", file);
        answers("box.append(file, 65);", box.append(file, 65));
        answers("box.sync();", box.sync());
        answers("box.append(file, 66);", box.append(file, 66));
        makes("box.power(0);");
        box.power(0);
        answers("box.sync();", "IllegalStateException");
        CHECK.illegalState("sync() without power", () -> box.sync());
        answers("box.state();", box.state());
        answers("box.mount();", box.mount());
        file = box.find(77);
        answers("file = box.find(77);", file);
        answers("box.length(file);", box.length(file));
        answers("box.byteAt(file, 0);", box.byteAt(file, 0));
        int request = box.queue(40, false, 0);
        answers("int request = box.queue(40, false, 0);", request);
        answers("box.serve();", box.serve());
        answers("box.served(request);", box.served(request));
        CHECK.is("lines of the example", line, example.size());
    }

    /** The call of the next line, which has no answer. */
    private void makes(String call) {
        String next = nextLine();
        CHECK.is("call", next.split("//")[0].trim(), call);
    }

    /** The call of the next line, with its answer as the first word behind it. */
    private void answers(String call, Object answer) {
        String next = nextLine();
        String[] parts = next.split("//");
        CHECK.is("call", parts[0].trim(), call);
        String said = parts.length < 2 ? "" : parts[1].trim().split("[: ]")[0];
        CHECK.is(call + " in README.md", said, String.valueOf(answer));
    }

    private String nextLine() {
        String next = line < example.size() ? example.get(line) : "";
        line++;
        return next;
    }

    private void everyCallIsNamed() {
        for (Method method : BubbleBox.class.getDeclaredMethods()) {
            if (Modifier.isPublic(method.getModifiers())) {
                isNamed(method.getName());
            }
        }
    }

    private void everyTestIsNamed() throws IOException {
        try (DirectoryStream<Path> tests = Files.newDirectoryStream(TESTS, "*Test.java")) {
            for (Path test : tests) {
                isNamed(test.getFileName().toString().replace(".java", ""));
            }
        }
    }

    private void isNamed(String name) {
        CHECK.is(name + " in README.md", text.contains("`" + name + "`"), true);
    }
}
