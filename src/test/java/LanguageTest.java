import java.io.IOException;
import java.lang.reflect.Executable;
import java.lang.reflect.Field;
import java.lang.reflect.Modifier;
import java.nio.file.Files;
import java.nio.file.Path;
import java.util.ArrayList;
import java.util.Arrays;
import java.util.List;
import java.util.Set;
import java.util.regex.Matcher;
import java.util.regex.Pattern;

/** What can be read off the class's text of LANGUAGE.md's rules; it is stricter where the class needs less. */
public final class LanguageTest {
    private static final Check CHECK = new Check("LanguageTest");
    private static final Set<String> NAMES = Set.of("DoorKeys", "Key", "Frame", "Doors", "ArrayIndexOutOfBoundsException");
    private static final List<String> NEVER = List.of("package", "import", "try", "catch", "finally", "synchronized",
            "assert", "volatile", "native", "transient", "double", "float", "var", "hashCode", "equals", "toString");
    private static final int MOST_PARAMETERS = 7;
    private static final int MOST_LINES = 60;
    private static final int MOST_CLASSES = 12;
    private static final int MOST_FIELDS = 20;

    public static void main(String[] args) throws IOException {
        String source = Files.readString(Path.of("src/main/java/DoorKeys.java"));
        String code = source.replaceAll("(?s)/\\*.*?\\*/", "").replaceAll("//[^\n]*", "");
        oneFile();
        words(code);
        throwsWhatTheDocumentNames(code);
        methodsAreShort(code);
        sizes();
        CHECK.end();
    }

    private static void oneFile() throws IOException {
        try (var all = Files.walk(Path.of("src/main"))) {
            CHECK.due("files of the program", all.filter(Files::isRegularFile).count(), 1);
        }
    }

    /** Rules 2 to 4, 6, 10: names that begin with a capital are the class's own, so no library is used. */
    private static void words(String code) {
        Matcher word = Pattern.compile("[A-Za-z_]\\w*").matcher(code);
        while (word.find()) {
            String it = word.group();
            boolean type = it.matches("[A-Z]\\w*[a-z]\\w*");
            CHECK.due(it + " is allowed", type && !NAMES.contains(it) || NEVER.contains(it) ? 0 : 1, 1);
        }
        for (String never : new String[] {"->", "::", "\"", "static {", "@"}) {
            CHECK.due("'" + never + "' is not used", code.contains(never) ? 1 : 0, 0);
        }
    }

    /** Rule 6 with promise 13: octet alone throws, and nothing is thrown elsewhere. */
    private static void throwsWhatTheDocumentNames(String code) {
        List<String> thrown = new ArrayList<>();
        Matcher each = Pattern.compile("throw\\s+([^;]*);").matcher(code);
        while (each.find()) {
            thrown.add(each.group(1));
        }
        CHECK.due("throws " + thrown, thrown.equals(List.of("new ArrayIndexOutOfBoundsException()")) ? 1 : 0, 1);
    }

    /** Rule 11: a method begins with a line that ends in ") {" or "Exception {" and ends at the same indent. */
    private static void methodsAreShort(String code) {
        String[] lines = code.split("\n");
        Pattern head = Pattern.compile("( {4}| {8})\\w[\\w\\[\\] ]*\\(.*\\)( throws \\w+)? \\{");
        int methods = 0;
        for (int begin = 0; begin < lines.length; begin++) {
            Matcher method = head.matcher(lines[begin]);
            if (method.matches() && !lines[begin].strip().matches("(if|for|while|switch|else) .*")) {
                int end = begin;
                while (end < lines.length && !lines[end].equals(method.group(1) + "}")) {
                    end++;
                }
                methods++;
                CHECK.due(lines[begin].strip() + " is short", end - begin < MOST_LINES ? 1 : 0, 1);
            }
        }
        CHECK.due("methods were found", methods >= 14 ? 1 : 0, 1);
    }

    private static void sizes() {
        List<Class<?>> classes = new ArrayList<>(Arrays.asList(DoorKeys.class.getDeclaredClasses()));
        classes.add(DoorKeys.class);
        CHECK.due("classes are few", classes.size() <= MOST_CLASSES ? 1 : 0, 1);
        for (Class<?> each : classes) {
            int fields = 0;
            for (Field field : each.getDeclaredFields()) {
                fields += Modifier.isStatic(field.getModifiers()) ? 0 : 1;
            }
            CHECK.due("fields of " + each + " are few", fields <= MOST_FIELDS ? 1 : 0, 1);
            parameters(each.getDeclaredMethods());
            parameters(each.getDeclaredConstructors());
        }
    }

    private static void parameters(Executable[] all) {
        for (Executable each : all) {
            CHECK.due("parameters of " + each, each.getParameterCount() <= MOST_PARAMETERS ? 1 : 0, 1);
        }
    }
}
