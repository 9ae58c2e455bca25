import java.io.IOException;
import java.nio.file.Files;
import java.nio.file.Path;
import java.util.List;
import java.util.regex.Matcher;
import java.util.regex.Pattern;

/** Prints the example of README.md as a program that looks at each answer the example tells. */
public final class ReadmeExample {
    private static final Pattern ANSWER =
        Pattern.compile("(?:int|boolean) (\\w+) = (.+); +// (-?\\d+|true|false)\\b.*");

    public static void main(String[] args) throws IOException {
        List<String> lines = Files.readAllLines(Path.of("README.md"));
        int start = lines.indexOf("```java") + 1;
        int length = lines.subList(start, lines.size()).indexOf("```");
        if (start == 0 || length <= 0) {
            throw new IllegalStateException("README.md has no example");
        }
        System.out.println("public final class ReadmeExampleRun {");
        System.out.println("    public static void main(String[] args) {");
        for (String line : lines.subList(start, start + length)) {
            System.out.println(looked(line));
        }
        System.out.println("        Check.end(\"README.md's example\");");
        System.out.println("    }");
        System.out.println("}");
    }

    /** The line, and behind it a look at its answer; a comment behind a line has to tell one. */
    private static String looked(String line) {
        Matcher answer = ANSWER.matcher(line);
        if (answer.matches()) {
            return line + "\nCheck.due(\"" + answer.group(2) + "\", " + answer.group(1) + ", " + answer.group(3) + ");";
        }
        if (line.indexOf("//") > 0) {
            throw new IllegalStateException("README.md's example tells no answer here: " + line);
        }
        return line;
    }
}
