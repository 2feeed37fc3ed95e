import java.io.IOException;
import java.lang.reflect.Method;
import java.lang.reflect.Modifier;
import java.nio.file.Files;
import java.nio.file.Path;
import java.util.ArrayList;
import java.util.HashMap;
import java.util.List;
import java.util.Map;
import java.util.regex.Matcher;
import java.util.regex.Pattern;

/** README.md: its examples answer what they tell behind //, and its table has every call with as many arguments as it takes. */
public final class ReadmeTest {
    private static final String START = "GhostTable table = new GhostTable();";
    private static final Pattern CALL =
        Pattern.compile("(?:int (\\w+) = )?table\\.(\\w+)\\(([^)]*)\\); +// (-?\\w+): \\S.*");
    private static final Pattern TABLED = Pattern.compile("`(\\w+)\\(([^)]*)\\)`");

    private GhostTable table = new GhostTable();
    private final Map<String, String> variables = new HashMap<>();

    private ReadmeTest() {
    }

    public static void main(String[] args) throws IOException, ReflectiveOperationException {
        List<String> page = Files.readAllLines(Path.of("README.md"));
        List<String> lines = exampleLines(page);
        Due.holds("the page has examples", lines.size() > 10);
        ReadmeTest test = new ReadmeTest();
        for (String line : lines) {
            test.hold(line);
        }
        holdTable(page);
        Due.end();
    }

    private static List<String> exampleLines(List<String> page) {
        List<String> lines = new ArrayList<>();
        boolean inside = false;
        for (String line : page) {
            if (line.startsWith("```")) {
                inside = line.equals("```java");
            } else if (inside) {
                lines.add(line);
            }
        }
        return lines;
    }

    private void hold(String line) throws ReflectiveOperationException {
        if (line.equals(START)) {
            table = new GhostTable();
            variables.clear();
            return;
        }
        Matcher m = CALL.matcher(line);
        Due.holds("a call and its answer: " + line, m.matches());
        if (m.matches()) {
            EdgeCall call = new EdgeCall(m.group(2) + words(m.group(3)) + " = " + m.group(4));
            int answer = call.make(table);
            Due.is("README.md: " + line, answer, call.due);
            variables.put(m.group(1), String.valueOf(answer));
        }
    }

    private String words(String arguments) {
        StringBuilder words = new StringBuilder();
        for (String argument : arguments.split(", ")) {
            String plain = argument.startsWith("0x") ? argument.replace("L", "") : argument;
            words.append(' ').append(variables.getOrDefault(plain, plain));
        }
        return words.toString();
    }

    private static void holdTable(List<String> page) {
        Map<String, Integer> tabled = new HashMap<>();
        for (String line : page) {
            Matcher m = TABLED.matcher(line.startsWith("| `") ? line.split(" \\| ")[0] : "");
            while (m.find()) {
                tabled.put(m.group(1), m.group(2).isEmpty() ? 0 : m.group(2).split(", ").length);
            }
        }
        for (Method m : GhostTable.class.getDeclaredMethods()) {
            if (Modifier.isPublic(m.getModifiers())) {
                Integer arguments = tabled.remove(m.getName());
                Due.holds("the page's table has " + m, arguments != null && arguments == m.getParameterCount());
            }
        }
        Due.holds("calls that the class has not: " + tabled, tabled.isEmpty());
    }
}
