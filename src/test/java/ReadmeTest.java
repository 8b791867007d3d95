import java.io.IOException;
import java.lang.reflect.Method;
import java.nio.file.Files;
import java.nio.file.Path;
import java.util.ArrayList;
import java.util.List;
import java.util.Set;
import java.util.TreeSet;
import java.util.regex.Matcher;
import java.util.regex.Pattern;
import java.util.stream.Collectors;
import java.util.stream.Stream;

/** What README.md shows of the class's use answers as README.md says; it leaves out no call and no test. */
public final class ReadmeTest {
    private static final Pattern BLOCK = Pattern.compile("^```java\\n(.*?)^```$", Pattern.MULTILINE | Pattern.DOTALL);
    private static final Pattern SHOWN = Pattern.compile("x\\.((\\w+)\\([-0-9, ]+\\)); +// (-?\\d+|[A-Z]+)(: .+)?");
    private static final Pattern LISTED = Pattern.compile("^\\| `(\\w+)\\(([^)`]*)\\)` \\|", Pattern.MULTILINE);
    private static final Pattern TEST = Pattern.compile("^\\| `(\\w+)` \\|", Pattern.MULTILINE);
    private static final Set<String> CONSTANTS = Set.of("UNKNOWN", "OUTSIDE", "STATE", "FULL", "NO", "NONE");

    private final Set<String> callsShown = new TreeSet<>();
    private final Set<String> answersShown = new TreeSet<>();

    public static void main(String[] args) throws IOException {
        String text = Files.readString(Path.of("README.md"));
        new ReadmeTest().blocks(text);
        callsListed(text);
        testsListed(text);
        Due.finish();
    }

    private void blocks(String text) {
        Matcher found = BLOCK.matcher(text);
        while (found.find()) {
            block(found.group(1).split("\\n"));
        }
        Due.due("README.md shows each call of the face: " + callsShown, callsShown.size(), face().size());
        Due.holds("README.md shows each constant as an answer: " + answersShown, answersShown.containsAll(CONSTANTS));
    }

    private void block(String[] lines) {
        Due.holds("a block begins with a new object: " + lines[0], lines[0].equals("DiskRests x = new DiskRests();"));
        List<String> rows = new ArrayList<>();
        for (int i = 1; i < lines.length; i++) {
            Matcher shown = SHOWN.matcher(lines[i]);
            if (!shown.matches()) {
                Due.holds("a call with its answer behind it: " + lines[i], false);
                continue;
            }
            rows.add(shown.group(1) + " = " + shown.group(3));
            callsShown.add(shown.group(2));
            answersShown.add(shown.group(3));
        }
        Doc.says("README.md", rows.toArray(new String[0]));
    }

    /** Each method as its name and how many numbers it takes. */
    private static Set<String> face() {
        Set<String> found = new TreeSet<>();
        for (Method method : DiskRests.class.getMethods()) {
            if (method.getDeclaringClass() == DiskRests.class) {
                found.add(method.getName() + " " + method.getParameterCount());
            }
        }
        return found;
    }

    private static void callsListed(String text) {
        Set<String> listed = new TreeSet<>();
        Matcher found = LISTED.matcher(text);
        while (found.find()) {
            listed.add(found.group(1) + " " + found.group(2).split(", ").length);
        }
        Due.holds("README.md lists the calls of the face: " + listed, listed.equals(face()));
    }

    private static void testsListed(String text) throws IOException {
        Set<String> listed = new TreeSet<>();
        Matcher found = TEST.matcher(text);
        while (found.find()) {
            listed.add(found.group(1));
        }
        try (Stream<Path> files = Files.list(Path.of("src/test/java"))) {
            Set<String> there = files.map(file -> file.getFileName().toString())
                    .filter(name -> name.endsWith("Test.java"))
                    .map(name -> name.substring(0, name.length() - ".java".length()))
                    .collect(Collectors.toCollection(TreeSet::new));
            Due.holds("README.md lists the tests that there are: " + listed, listed.equals(there));
        }
    }
}
