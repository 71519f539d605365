import java.io.IOException;
import java.lang.reflect.Method;
import java.lang.reflect.Modifier;
import java.net.URL;
import java.net.URLClassLoader;
import java.nio.file.Files;
import java.nio.file.Path;
import java.util.ArrayList;
import java.util.List;
import java.util.regex.Matcher;
import java.util.regex.Pattern;
import javax.tools.JavaCompiler;
import javax.tools.ToolProvider;

/** README.md says how to use the class: each answer that it shows is the one that comes, and no call is missing. */
public final class ReadmeTest {
    private static final Pattern BLOCK = Pattern.compile("```java\n(.*?)```", Pattern.DOTALL);
    private static final Pattern SHOWN = Pattern.compile("(?:int (\\w+) = )?(.*);\\s*// (-?\\d+|true|false):.*");

    private final List<String> calls = new ArrayList<>();
    private final List<Long> due = new ArrayList<>();

    private ReadmeTest() {
    }

    public static void main(String[] args) throws IOException, ReflectiveOperationException {
        String page = Files.readString(Path.of("README.md"));
        namesEveryCall(page);
        new ReadmeTest().answersAreTrue(page);
        Due.finish();
    }

    private static void namesEveryCall(String page) {
        for (Method method : SleightHouse.class.getDeclaredMethods()) {
            if (Modifier.isPublic(method.getModifiers())) {
                Due.is("README.md names " + method.getName(), page.contains("`" + method.getName() + "`"), true);
            }
        }
    }

    private void answersAreTrue(String page) throws IOException, ReflectiveOperationException {
        long[] got = run(asClass(page));
        Due.is("answers are shown", due.size() > 20, true);
        Due.is("answers come", got.length, due.size());
        for (int i = 0; i < got.length && i < due.size(); i++) {
            Due.is(calls.get(i), got[i], due.get(i));
        }
    }

    /** The page's lines in one method, which gives the answers that came; its methods beside that one. */
    private String asClass(String page) {
        StringBuilder lines = new StringBuilder();
        StringBuilder methods = new StringBuilder();
        Matcher blocks = BLOCK.matcher(page);
        while (blocks.find()) {
            if (blocks.group(1).startsWith("static")) {
                methods.append(blocks.group(1));
            } else {
                for (String line : blocks.group(1).split("\n")) {
                    lines.append(asAnswer(line)).append('\n');
                }
            }
        }
        return "public final class Readme {\n" + methods + "public static long[] answers() {\n"
            + "long[] answers = new long[" + due.size() + "];\n" + lines + "return answers;\n}\n}\n";
    }

    private String asAnswer(String line) {
        Matcher shown = SHOWN.matcher(line);
        if (!shown.matches()) {
            return line;
        }
        String value = shown.group(3);
        boolean yesOrNo = value.equals("true") || value.equals("false");
        String ahead = shown.group(1) == null ? "" : "int " + shown.group(1) + " = " + shown.group(2) + ";\n";
        String call = shown.group(1) == null ? shown.group(2) : shown.group(1);
        String answer = "answers[" + due.size() + "] = " + call + (yesOrNo ? " ? 1 : 0" : "") + ";";
        calls.add(shown.group(2));
        due.add(yesOrNo ? (value.equals("true") ? 1L : 0L) : Long.parseLong(value));
        return ahead + answer;
    }

    private static long[] run(String source) throws IOException, ReflectiveOperationException {
        Path folder = Files.createTempDirectory(Files.createDirectories(Path.of("build")), "readme");
        Path file = folder.resolve("Readme.java");
        Path compiled = folder.resolve("Readme.class");
        try {
            Files.writeString(file, source);
            JavaCompiler compiler = ToolProvider.getSystemJavaCompiler();
            int code = compiler.run(null, null, null, "-cp", System.getProperty("java.class.path"), file.toString());
            Due.is("README.md compiles", code, 0);
            if (code != 0) {
                return new long[0];
            }
            try (URLClassLoader loader = new URLClassLoader(new URL[] {folder.toUri().toURL()})) {
                return (long[]) loader.loadClass("Readme").getMethod("answers").invoke(null);
            }
        } finally {
            Files.deleteIfExists(compiled);
            Files.deleteIfExists(file);
            Files.deleteIfExists(folder);
        }
    }
}
