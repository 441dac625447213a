import java.lang.reflect.InvocationTargetException;
import java.lang.reflect.Method;
import java.lang.reflect.Modifier;
import java.net.URL;
import java.net.URLClassLoader;
import java.nio.file.Files;
import java.nio.file.Path;
import java.util.ArrayList;
import java.util.List;
import java.util.regex.Matcher;
import java.util.regex.Pattern;

/** README.md shows calls with what they answer behind them: here they are compiled and asked. */
public final class ReadmeTests {
    private static final Pattern BLOCK = Pattern.compile("(?s)```java\n(.*?)```");
    private static final Pattern CALL =
            Pattern.compile("(?s)^(x\\.(\\w+)\\(.*\\));\\s*// (-?\\d+|true|false|\\w+Exception)(?=[:\n]).*");
    private static final String CHECK = """
            static int wrong = 0;
            static int asked = 0;

            interface Call {
                Object answer();
            }

            static void due(String call, Call x, String want) {
                String got;
                try {
                    got = String.valueOf(x.answer());
                } catch (RuntimeException e) {
                    got = e.getClass().getSimpleName();
                }
                asked++;
                if (!got.equals(want)) {
                    wrong++;
                    System.out.println("README.md says " + want + " of " + call + ", it answers " + got);
                }
            }
            """;

    public static void main(String[] args) throws Exception {
        String readme = Files.readString(Path.of("README.md"));
        List<String> blocks = new ArrayList<>();
        Matcher block = BLOCK.matcher(readme);
        while (block.find()) {
            blocks.add(block.group(1));
        }
        int missing = missingCalls(readme);
        int wrong = blocks.size() == 2 ? wrongAnswers(blocks.get(0), blocks.get(1)) : 1;
        if (blocks.size() != 2) {
            System.out.println("README.md has " + blocks.size() + " blocks of Java, due are a helper and calls");
        }
        System.exit(missing + wrong == 0 ? 0 : 1);
    }

    private static int missingCalls(String readme) {
        int missing = 0;
        for (Method m : DonkeyLight.class.getDeclaredMethods()) {
            if (Modifier.isPublic(m.getModifiers()) && !readme.matches("(?s).*\n\\|[^\n]*`" + m.getName() + "`.*")) {
                missing++;
                System.out.println("README.md's table lacks " + m.getName());
            }
        }
        return missing;
    }

    private static int wrongAnswers(String helper, String calls) throws Exception {
        StringBuilder asked = new StringBuilder();
        for (String statement : statements(calls)) {
            Matcher call = CALL.matcher(statement);
            if (call.matches()) {
                asked.append("due(\"").append(call.group(2)).append("\", () -> ").append(call.group(1))
                        .append(", \"").append(call.group(3)).append("\");\n");
            } else {
                asked.append(statement).append("\n");
            }
        }
        String source = "public final class Readme {\n" + CHECK + helper
                + "public static int run() {\n" + asked
                + "System.out.println(asked + \" answers of README.md asked, \" + wrong + \" wrong\");\n"
                + "return asked == 0 ? 1 : wrong;\n}\n}\n";
        Path dir = Files.createTempDirectory("readme");
        try {
            return compiledAndRun(dir, source);
        } finally {
            for (Path file : Files.list(dir).toList()) {
                Files.delete(file);
            }
            Files.delete(dir);
        }
    }

    /** A statement may go over more than one line; a line of comment alone tells no answer. */
    private static List<String> statements(String calls) {
        List<String> all = new ArrayList<>();
        StringBuilder open = new StringBuilder();
        for (String line : calls.split("\n")) {
            if (line.isBlank() || line.startsWith("//")) {
                continue;
            }
            open.append(line).append("\n");
            if (line.matches(".*;\\s*(//.*)?")) {
                all.add(open.toString());
                open.setLength(0);
            }
        }
        if (open.length() > 0) {
            all.add(open.toString());
        }
        return all;
    }

    private static int compiledAndRun(Path dir, String source) throws Exception {
        Path file = dir.resolve("Readme.java");
        Files.writeString(file, source);
        Process javac = new ProcessBuilder("javac", "-cp", System.getProperty("java.class.path"),
                "-d", dir.toString(), file.toString()).inheritIO().start();
        if (javac.waitFor() != 0) {
            System.out.println("the Java of README.md can't be compiled");
            return 1;
        }
        try (URLClassLoader loader = new URLClassLoader(new URL[] {dir.toUri().toURL()})) {
            return (Integer) loader.loadClass("Readme").getMethod("run").invoke(null);
        } catch (InvocationTargetException e) {
            System.out.println("the Java of README.md threw " + e.getCause());
            return 1;
        }
    }
}
