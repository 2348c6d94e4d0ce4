import java.io.IOException;
import java.lang.reflect.Field;
import java.lang.reflect.Modifier;
import java.nio.file.Files;
import java.nio.file.Path;
import java.util.ArrayList;
import java.util.List;
import java.util.regex.Matcher;
import java.util.regex.Pattern;

/** What can be seen of ../shared/LANGUAGE.md in the program's text; its path is the first argument. */
final class LanguageTest extends Check {
    private static final String[] NEVER = {
        "finally", "synchronized", "assert", "volatile", "native", "Exception", "Throwable",
        "NullPointerException", "ArrayIndexOutOfBoundsException", "ClassCastException",
        "NegativeArraySizeException", "ArrayStoreException", "Random", "Thread", "getMessage",
        "hashCode", "currentTimeMillis", "nanoTime", "[a-z]+Exact"};
    private static final List<String> STATICS = List.of(
        "Math.max", "Math.min", "Math.abs", "Math.floorMod", "Math.floorDiv", "System.arraycopy",
        "Arrays.copyOf", "Arrays.copyOfRange", "Arrays.fill", "List.of");
    private static final Pattern STATIC =
        Pattern.compile("\\b(?:Math|System|Arrays|List|Integer|Long|Double|String|Objects)\\.\\w+");
    private static final Pattern METHOD =
        Pattern.compile("( {4}| {8})(?! )(?!.*\\b(?:class|new)\\b)[^/*=;]*\\w\\([^;=]*");
    private static final int MOST_LINES = 60;
    private static final int MOST_CLASSES = 12;
    private static final int MOST_FIELDS = 20;
    private static final Pattern IMPORT =
        Pattern.compile("import java\\.util\\.(ArrayList|List|Arrays|Iterator|NoSuchElementException);");

    public static void main(String[] args) throws IOException {
        if (args.length < 1) {
            System.out.println("the program's path is missing");
            System.exit(1);
        }
        Path program = Path.of(args[0]);
        oneFile(program);
        List<String> lines = Files.readAllLines(program);
        signs(lines);
        words(lines);
        lengths(lines);
        classes();
        close("LanguageTest");
    }

    private static void oneFile(Path program) throws IOException {
        try (var files = Files.walk(program.getParent())) {
            same("one file", files.filter(Files::isRegularFile).count(), 1);
        }
    }

    private static void signs(List<String> lines) {
        for (String line : lines) {
            same("4 signs 1 to 127: " + line, line.chars().allMatch(c -> c > 0 && c < 128), true);
        }
    }

    private static void words(List<String> lines) {
        StringBuilder text = new StringBuilder();
        for (String line : lines) {
            String code = codeOf(line);
            text.append(code).append('\n');
            same("1 no package: " + line, code.startsWith("package "), false);
            same("4 import: " + line, !code.startsWith("import ") || IMPORT.matcher(code).matches(), true);
        }
        for (String word : NEVER) {
            same("never " + word, Pattern.compile("\\b" + word + "\\b").matcher(text).find(), false);
        }
        same("2 no method reference", text.indexOf("::"), -1);
        same("2 no lambda", text.indexOf("->"), -1);
        STATIC.matcher(text).results().forEach(use ->
            same("4 of the library: " + use.group(), STATICS.contains(use.group()), true));
        same("6 a throw makes what it throws", Pattern.compile("throw(?! new \\w+\\()\\s").matcher(text).find(), false);
    }

    /** A method of the face, or of a class inside it, ends with the brace at its own depth. */
    private static void lengths(List<String> lines) {
        for (int i = 0; i < lines.size(); i++) {
            Matcher start = METHOD.matcher(lines.get(i));
            if (start.matches()) {
                int end = i;
                while (end < lines.size() && !lines.get(end).equals(start.group(1) + "}")) {
                    end++;
                }
                same("11 a short method: " + lines.get(i), end - i < MOST_LINES, true);
            }
        }
    }

    private static void classes() {
        List<Class<?>> all = new ArrayList<>(List.of(IronbridgeCache.class.getDeclaredClasses()));
        all.add(IronbridgeCache.class);
        same("11 few classes", all.size() <= MOST_CLASSES, true);
        for (Class<?> one : all) {
            boolean isInside = one != IronbridgeCache.class;
            same("2 static: " + one, Modifier.isStatic(one.getModifiers()), isInside);
            int fields = 0;
            for (Field field : one.getDeclaredFields()) {
                boolean isStatic = Modifier.isStatic(field.getModifiers());
                fields += isStatic ? 0 : 1;
                same("5 a constant: " + field, !isStatic || isConstant(field), true);
            }
            same("11 few fields: " + one, fields <= MOST_FIELDS, true);
        }
    }

    private static boolean isConstant(Field field) {
        return Modifier.isFinal(field.getModifiers())
                && (field.getType() == int.class || field.getType() == long.class);
    }

    /** The line without its comment and the texts in it; the program has no other kind of them. */
    private static String codeOf(String line) {
        String code = line.replaceAll("\"[^\"]*\"", "\"\"").strip();
        if (code.startsWith("/*") || code.startsWith("*")) {
            return "";
        }
        int comment = code.indexOf("//");
        return comment < 0 ? code : code.substring(0, comment).strip();
    }
}
