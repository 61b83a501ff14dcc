import java.io.IOException;
import java.lang.reflect.Method;
import java.lang.reflect.Modifier;
import java.nio.file.Files;
import java.nio.file.Path;
import java.util.List;
import java.util.TreeSet;
import java.util.regex.Matcher;
import java.util.regex.Pattern;
import java.util.stream.Stream;

/**
 * Writes a test of README.md, ReadmeCalls.java, to the standard output: the Java that the page shows, as it stands
 * there, and each call compared with the answer behind it.
 */
public final class ReadmeCode {
    private static final Pattern CALL =
        Pattern.compile("((?:desk\\.(\\w+)|tell)\\(.*\\));\\s+// (throws )?(-?\\d+|true|false|\\w+Exception)(:.*)?");
    private static final String NEW_DESK = "ExemptDesk desk = new ExemptDesk();";

    private final TreeSet<String> notShown = new TreeSet<>();
    private final StringBuilder members = new StringBuilder();
    private final StringBuilder calls = new StringBuilder();
    private boolean wrong;

    /** Takes the page and the folder of the tests that it is to name. */
    public static void main(String[] args) throws IOException {
        ReadmeCode code = new ReadmeCode();
        code.read(Files.readAllLines(Path.of(args[0])));
        code.lookForFiles(Files.readString(Path.of(args[0])), Path.of(args[1]));
        if (code.wrong) {
            System.exit(1);
        }
        System.out.println("import java.util.NoSuchElementException;\npublic final class ReadmeCalls {\n"
            + "private static final Check check = new Check();\n" + code.members + "public static void main(String[] args) {\n" + code.calls + "check.end();\n}\n}");
    }

    private void read(List<String> page) {
        for (Method method : ExemptDesk.class.getDeclaredMethods()) {
            if (Modifier.isPublic(method.getModifiers())) {
                notShown.add(method.getName());
            }
        }
        boolean inside = false;
        boolean isMember = false;
        for (String line : page) {
            if (line.startsWith("```")) {
                inside = line.equals("```java");
                isMember = false;
            } else if (inside) {
                isMember |= line.startsWith("static ");
                if (isMember) {
                    members.append(line).append('\n');
                } else {
                    take(line);
                }
            }
        }
        for (String name : notShown) {
            complain("shows no call of " + name);
        }
    }

    private void take(String line) {
        Matcher call = CALL.matcher(line);
        if (line.equals(NEW_DESK)) {
            calls.append(line).append('\n');
        } else if (!call.matches()) {
            complain("has a line without an answer: " + line);
        } else {
            if (call.group(2) != null) {
                notShown.remove(call.group(2));
            }
            calls.append(call.group(3) == null ? answers(call.group(1), call.group(4))
                : fails(call.group(1), call.group(4)));
        }
    }

    private static String quoted(String call) {
        return '"' + call.replace("\\", "\\\\").replace("\"", "\\\"") + '"';
    }

    private static String answers(String call, String due) {
        return "check.due(" + quoted(call) + ", " + due + ", " + call + ");\n";
    }

    private static String fails(String call, String exception) {
        return "try {\n" + call + ";\ncheck.due(" + quoted(call + " throws") + ", 1, 0);\n} catch (" + exception
            + " e) {\ncheck.due(" + quoted(call + " throws") + ", 1, 1);\n}\n";
    }

    private void lookForFiles(String page, Path tests) throws IOException {
        try (Stream<Path> files = Files.list(tests)) {
            files.map(file -> file.getFileName().toString().replace(".java", ""))
                .filter(name -> !page.contains('`' + name + '`')).sorted()
                .forEach(name -> complain("doesn't name " + name));
        }
    }

    private void complain(String what) {
        wrong = true;
        System.err.println("README.md " + what);
    }
}
