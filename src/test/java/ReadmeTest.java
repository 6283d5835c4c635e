import java.io.IOException;
import java.lang.reflect.Method;
import java.lang.reflect.Modifier;
import java.net.URL;
import java.net.URLClassLoader;
import java.nio.file.Files;
import java.nio.file.Path;
import java.util.ArrayList;
import java.util.List;
import java.util.regex.Matcher;
import java.util.regex.Pattern;
import java.util.stream.Stream;
import javax.tools.ToolProvider;

/** README.md tells what is so: its examples answer what stands beside them, and it names each call and each test. */
public final class ReadmeTest {
    private static final Pattern BLOCK = Pattern.compile("```java\n(.*?)```", Pattern.DOTALL);
    private static final Pattern ANSWER = Pattern.compile("(?:int|boolean) (\\w+) = .*; +// (\\w+).*");
    private static final Pattern COMMAND = Pattern.compile("\\| `([^`]+)` \\| [^|]+ \\| `(\\w+\\([^`]*\\))` \\|");

    private final String page;
    private final List<String> lines = new ArrayList<>();
    private final List<String> names = new ArrayList<>();
    private final List<String> answers = new ArrayList<>();
    private final List<String> commands = new ArrayList<>();
    private final List<String> calls = new ArrayList<>();

    private ReadmeTest(String page) {
        this.page = page;
    }

    public static void main(String[] args) throws Exception {
        ReadmeTest test = new ReadmeTest(Files.readString(Path.of("README.md")));
        test.readExamples();
        test.readCommands();
        test.run();
        test.checkNames();
        Checks.finish("ReadmeTest");
    }

    private void readExamples() {
        Matcher block = BLOCK.matcher(page);
        while (block.find()) {
            for (String line : block.group(1).split("\n")) {
                lines.add(line);
                Matcher answer = ANSWER.matcher(line);
                if (answer.matches()) {
                    names.add(answer.group(1));
                    answers.add(answer.group(2));
                }
            }
        }
        Checks.due("answers of the examples", true, () -> answers.size() > 10);
    }

    private void readCommands() {
        Matcher row = COMMAND.matcher(page);
        while (row.find()) {
            commands.add(row.group(1));
            calls.add(row.group(2));
        }
        Checks.due("commands", 8, commands::size);
    }

    // The examples as a class that the compiler of the JDK makes.
    private String source() {
        StringBuilder source = new StringBuilder("public final class ReadmeExamples {\n");
        source.append("public static Object[] answers() {\n").append(String.join("\n", lines));
        source.append("\nreturn new Object[] {").append(String.join(", ", names)).append("};\n}\n");
        source.append("public static void call(AvalancheGallery gallery, int row) {\nswitch (row) {\n");
        for (int row = 0; row < calls.size(); row++) {
            source.append("case ").append(row).append(": gallery.").append(calls.get(row)).append("; break;\n");
        }
        return source.append("default: break;\n}\n}\n}\n").toString();
    }

    private void run() throws Exception {
        Path folder = Files.createTempDirectory("readme");
        Path file = folder.resolve("ReadmeExamples.java");
        Path made = folder.resolve("ReadmeExamples.class");
        try {
            Files.writeString(file, source());
            int failed = ToolProvider.getSystemJavaCompiler().run(null, null, null, "-cp",
                    System.getProperty("java.class.path"), "-d", folder.toString(), file.toString());
            Checks.due("compiling the examples", 0, () -> failed);
            try (URLClassLoader loader = new URLClassLoader(new URL[] {folder.toUri().toURL()})) {
                Class<?> examples = loader.loadClass("ReadmeExamples");
                checkAnswers((Object[]) examples.getMethod("answers").invoke(null));
                checkCommands(examples.getMethod("call", AvalancheGallery.class, int.class));
            }
        } finally {
            Files.deleteIfExists(made);
            Files.deleteIfExists(file);
            Files.deleteIfExists(folder);
        }
    }

    private void checkAnswers(Object[] got) {
        for (int answer = 0; answer < got.length; answer++) {
            Object value = got[answer];
            Checks.due(names.get(answer), answers.get(answer), () -> value);
        }
    }

    private void checkCommands(Method call) throws Exception {
        for (int row = 0; row < commands.size(); row++) {
            String text = commands.get(row);
            AvalancheGallery called = withEmptyBuffer();
            AvalancheGallery told = withEmptyBuffer();
            String before = Galleries.view(told);
            call.invoke(null, called, row);
            Checks.feed(told, text);
            Checks.due(text, 1, told::execute);
            Checks.due(text + " is seen", false, () -> Galleries.view(told).equals(before));
            Checks.due(text + " does the same as the call", Galleries.view(called), () -> Galleries.view(told));
        }
    }

    private static AvalancheGallery withEmptyBuffer() {
        AvalancheGallery gallery = Galleries.LADEN.make();
        Checks.answerOf(gallery::execute);
        return gallery;
    }

    private void checkNames() throws IOException {
        for (Method method : AvalancheGallery.class.getDeclaredMethods()) {
            if (Modifier.isPublic(method.getModifiers())) {
                dueNamed(method.getName());
            }
        }
        try (Stream<Path> tests = Files.list(Path.of("src", "test", "java"))) {
            tests.map(test -> test.getFileName().toString().replace(".java", ""))
                    .filter(name -> name.endsWith("Test")).forEach(this::dueNamed);
        }
    }

    private void dueNamed(String name) {
        Checks.due("README.md names " + name, true, () -> page.contains("`" + name + "`"));
    }
}
