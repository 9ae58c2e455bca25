import java.io.File;
import java.io.IOException;
import java.nio.file.Files;
import java.nio.file.Path;
import java.util.Set;
import java.util.TreeSet;
import java.util.regex.Matcher;
import java.util.regex.Pattern;

/** README.md says how the tests are run, and lists each of them. */
public final class ReadmeTest {
    public static void main(String[] args) throws IOException {
        String readme = Files.readString(Path.of("README.md"));
        Check.due("README.md says how the tests are run", readme.contains("\n    .ci/run\n"), true);
        Check.due("README.md has an example", readme.contains("\n```java\n"), true);
        Set<String> listed = new TreeSet<>();
        Matcher row = Pattern.compile("(?m)^\\| (\\w+Test) \\|").matcher(readme);
        while (row.find()) {
            listed.add(row.group(1));
        }
        Set<String> there = new TreeSet<>();
        for (String file : new File("src/test/java").list()) {
            if (file.endsWith("Test.java")) {
                there.add(file.substring(0, file.length() - ".java".length()));
            }
        }
        Check.due("README.md lists " + listed + ", there are " + there + ": alike", listed.equals(there), true);
        Check.end("ReadmeTest");
    }
}
