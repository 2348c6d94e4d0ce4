import java.io.IOException;
import java.nio.file.Files;
import java.nio.file.Path;
import java.util.List;
import java.util.regex.Pattern;

/** What can be seen of ../shared/LANGUAGE.md in the program's text; its path is the first argument. */
final class LanguageTest extends Check {
    private static final String[] NEVER = {
        "finally", "synchronized", "assert", "volatile", "native", "Exception", "Throwable",
        "NullPointerException", "ArrayIndexOutOfBoundsException", "ClassCastException",
        "NegativeArraySizeException", "ArrayStoreException", "Random", "Thread", "getMessage",
        "hashCode", "currentTimeMillis", "nanoTime", "[a-z]+Exact"};
    private static final Pattern IMPORT =
        Pattern.compile("import java\\.util\\.(ArrayList|List|Arrays|Iterator|NoSuchElementException);");

    public static void main(String[] args) throws IOException {
        if (args.length < 1) {
            System.out.println("the program's path is missing");
            System.exit(1);
        }
        Path program = Path.of(args[0]);
        oneFile(program);
        List<String> lines = Files.readAllLines(program);
        signs(lines);
        words(lines);
        close("LanguageTest");
    }

    private static void oneFile(Path program) throws IOException {
        try (var files = Files.walk(program.getParent())) {
            same("one file", files.filter(Files::isRegularFile).count(), 1);
        }
    }

    private static void signs(List<String> lines) {
        for (String line : lines) {
            same("4 signs 1 to 127: " + line, line.chars().allMatch(c -> c > 0 && c < 128), true);
        }
    }

    private static void words(List<String> lines) {
        StringBuilder text = new StringBuilder();
        for (String line : lines) {
            String code = codeOf(line);
            text.append(code).append('\n');
            same("1 no package: " + line, code.startsWith("package "), false);
            same("4 import: " + line, !code.startsWith("import ") || IMPORT.matcher(code).matches(), true);
        }
        for (String word : NEVER) {
            same("never " + word, Pattern.compile("\\b" + word + "\\b").matcher(text).find(), false);
        }
        same("2 no method reference", text.indexOf("::"), -1);
        same("6 a throw makes what it throws", Pattern.compile("throw(?! new \\w+\\()\\s").matcher(text).find(), false);
    }

    /** The line without its comment and the texts in it; the program has no other kind of them. */
    private static String codeOf(String line) {
        String code = line.replaceAll("\"[^\"]*\"", "\"\"").strip();
        if (code.startsWith("/*") || code.startsWith("*")) {
            return "";
        }
        int comment = code.indexOf("//");
        return comment < 0 ? code : code.substring(0, comment).strip();
    }
}
