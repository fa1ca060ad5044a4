import java.io.IOException;
import java.io.UncheckedIOException;
import java.net.URL;
import java.net.URLClassLoader;
import java.nio.file.Files;
import java.nio.file.Path;
import java.util.ArrayList;
import java.util.Comparator;
import java.util.List;
import java.util.regex.Matcher;
import java.util.regex.Pattern;
import java.util.stream.Stream;
import javax.tools.ToolProvider;

/** README.md is true: its lines of code compile and answer as they say, and it names what lies there. */
public final class ReadmeTest {
    private static final Check CHECK = new Check("ReadmeTest");
    private static final String[] FACE = {"new DoorKeys(", ".key(", ".remote(", ".counter(", ".lock(", ".learn(", ".erase(",
        ".field(", ".start(", ".crash(", ".alarm(", ".battery(", ".octet(", ".state("};
    private static final Pattern CALL = Pattern.compile("\\s*(car\\..*\\));.*");
    private static final Pattern ANSWERED = Pattern.compile("\\s*car\\..*\\);\\s+// (-?\\d+|throws \\w+)(: .*)?");

    public static void main(String[] args) throws Exception {
        List<String> readme = Files.readAllLines(Path.of("README.md"));
        List<String> code = linesOfCode(readme);
        String text = String.join("\n", code);
        for (String call : FACE) {
            CHECK.due("the use of " + call + ") is shown", text.contains(call) ? 1 : 0, 1);
        }
        answersAreAsItSays(code);
        commandIsThere(readme);
        testsAreNamed(String.join("\n", readme));
        CHECK.end();
    }

    private static List<String> linesOfCode(List<String> readme) {
        int begin = readme.indexOf("```java");
        List<String> rest = readme.subList(begin + 1, readme.size());
        int end = rest.indexOf("```");
        CHECK.due("there is a block of code, and one only", begin >= 0 && end > 0
                && begin == readme.lastIndexOf("```java") ? 1 : 0, 1);
        return rest.subList(0, Math.max(end, 0));
    }

    private static void answersAreAsItSays(List<String> code) throws Exception {
        StringBuilder asked = new StringBuilder();
        List<String> inOrder = new ArrayList<>();
        for (String line : code) {
            Matcher call = CALL.matcher(line);
            Matcher answered = ANSWERED.matcher(line);
            if (!call.matches()) {
                asked.append(line).append('\n');
            } else if (answered.matches()) {
                asked.append(asking(call.group(1), inOrder.size(), answered.group(1)));
                inOrder.add(line.strip());
            } else {
                CHECK.due("'" + line + "' says its answer", 0, 1);
            }
        }
        boolean[] met = new boolean[inOrder.size()];
        for (String said : run(code, asked.toString())) {
            String[] parts = said.split("\\|");
            int call = Integer.parseInt(parts[0]);
            met[call] = true;
            CHECK.due("'" + inOrder.get(call) + "' (answered " + parts[2] + ")", parts[1].equals(parts[2]) ? 1 : 0, 1);
        }
        for (int i = 0; i < met.length; i++) {
            CHECK.due("'" + inOrder.get(i) + "' was run", met[i] ? 1 : 0, 1);
        }
    }

    /** The call as code that notes its place, the answer that README.md says, and the one that came. */
    private static String asking(String call, int place, String want) {
        String head = "said.add(\"" + place + "|" + want + "|\" + ";
        return "try { " + head + call + "); } catch (RuntimeException e) { "
                + head + "\"throws \" + e.getClass().getSimpleName()); }\n";
    }

    private static List<String> run(List<String> asTheyAre, String asked) throws Exception {
        Path folder = Files.createTempDirectory("readme");
        try {
            Path source = folder.resolve("ReadmeLines.java");
            Files.writeString(source, "public final class ReadmeLines {\n"
                    + "static void asTheyAre() {\n" + String.join("\n", asTheyAre) + "\n}\n"
                    + "public static java.util.List<String> answers() {\n"
                    + "java.util.List<String> said = new java.util.ArrayList<>();\n" + asked + "return said;\n}\n}\n");
            int failed = ToolProvider.getSystemJavaCompiler().run(null, null, null, "-cp",
                    System.getProperty("java.class.path"), "-d", folder.toString(), source.toString());
            CHECK.due("the lines compile", failed, 0);
            return failed == 0 ? answersOf(folder) : List.of();
        } finally {
            delete(folder);
        }
    }

    private static List<String> answersOf(Path folder) throws Exception {
        List<String> said = new ArrayList<>();
        try (URLClassLoader loader = new URLClassLoader(new URL[] {folder.toUri().toURL()})) {
            Object all = loader.loadClass("ReadmeLines").getMethod("answers").invoke(null);
            for (Object each : (List<?>) all) {
                said.add((String) each);
            }
        }
        return said;
    }

    private static void delete(Path folder) throws IOException {
        try (Stream<Path> all = Files.walk(folder)) {
            all.sorted(Comparator.reverseOrder()).forEach(path -> {
                try {
                    Files.delete(path);
                } catch (IOException e) {
                    throw new UncheckedIOException(e);
                }
            });
        }
    }

    private static void commandIsThere(List<String> readme) {
        int tests = readme.indexOf("## Tests");
        int commands = 0;
        for (String line : readme.subList(Math.max(tests, 0), readme.size())) {
            if (line.startsWith("    ")) {
                commands++;
                CHECK.due(line.strip() + " can be run", Files.isExecutable(Path.of(line.strip())) ? 1 : 0, 1);
            }
        }
        CHECK.due("commands told", commands, 1);
    }

    private static void testsAreNamed(String readme) throws IOException {
        List<String> files = new ArrayList<>();
        try (Stream<Path> all = Files.list(Path.of("src/test/java"))) {
            all.forEach(path -> files.add(path.getFileName().toString().replace(".java", "")));
        }
        for (String file : files) {
            boolean between = file.matches("Promise(0[2-9]|1[0-3])\\w+Test");
            CHECK.due(file + " is named", between || readme.contains("`" + file + "`") ? 1 : 0, 1);
        }
        Matcher named = Pattern.compile("`(\\w+Test)`").matcher(readme);
        while (named.find()) {
            CHECK.due(named.group(1) + " is there", files.contains(named.group(1)) ? 1 : 0, 1);
        }
        for (int promise = 1; promise <= 14; promise++) {
            String begin = String.format("Promise%02d", promise);
            CHECK.due("tests of promise " + promise, files.stream().filter(f -> f.startsWith(begin)).count(), 1);
        }
    }
}
