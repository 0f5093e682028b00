import java.lang.reflect.Method;
import java.lang.reflect.Modifier;
import java.nio.charset.StandardCharsets;
import java.nio.file.Files;
import java.nio.file.Path;
import java.util.ArrayList;
import java.util.HashMap;
import java.util.List;
import java.util.Map;
import java.util.Set;
import java.util.TreeSet;
import java.util.regex.Matcher;
import java.util.regex.Pattern;

/** README.md: the calls that it shows answer so, its table has each call with its refusals, and it tells of each test. */
public final class ReadmeTest {
    private static final Pattern BLOCK = Pattern.compile("(?s)```java\n(.*?)```");
    private static final Pattern TYPING =
            Pattern.compile("for \\(char c : \"([^\"]*)\"\\.toCharArray\\(\\)\\) x\\.type\\((\\d), c\\);.*");
    private static final Pattern CALL = Pattern.compile("x\\.(\\w+)\\(([^()]*)\\); +// (-?\\d+)(:.*)?");
    private static final Pattern ROW = Pattern.compile("(?m)^\\| `(\\w+)\\(([^()]*)\\)` \\|(.*)\\|(.*)\\|$");
    private static final Pattern REFUSAL = Pattern.compile("\\b(BAD|NOT|FULL|NULL|INDEX|CAST|STORE|SIZE)\\b");

    /** Each call and its refusals, in the order in which the document tells them. */
    private static final String[] REFUSALS = {
        "type BAD FULL", "undo BAD NOT", "wipe BAD", "fault BAD", "height BAD", "level BAD", "set BAD", "odds BAD",
        "dike BAD FULL", "read BAD NULL", "breaks NOT", "possession BAD", "wet BAD", "water BAD", "cost BAD",
        "closed BAD", "deed BAD", "waits BAD NOT", "goes BAD NOT", "keep BAD", "contract BAD", "tears BAD",
        "never BAD", "gain BAD", "watch", "fact BAD FULL", "forget", "fit", "sheet BAD SIZE", "lose BAD NULL",
        "lay BAD NULL CAST INDEX", "get BAD NULL CAST INDEX", "copy BAD NULL STORE INDEX", "write BAD NULL",
        "count BAD", "digest"};

    private static final Check check = new Check();
    private static final Set<String> shown = new TreeSet<>();
    private static Calls calls = null;

    public static void main(String[] args) throws Exception {
        Path root = Path.of(args.length > 0 ? args[0] : ".").toAbsolutePath();
        String readme = Files.readString(root.resolve("README.md"), StandardCharsets.UTF_8);
        Matcher blocks = BLOCK.matcher(readme);
        while (blocks.find()) {
            for (String line : blocks.group(1).split("\n")) {
                shows(line.trim());
            }
        }
        check.due("calls shown with an answer", shown.size(), face().size());
        table(readme);
        tests(readme, root);
        check.end();
    }

    private static void shows(String line) {
        Matcher typing = TYPING.matcher(line);
        Matcher call = CALL.matcher(line);
        if (line.equals("RoadRiver x = new RoadRiver();")) {
            calls = new Calls();
        } else if (typing.matches()) {
            calls.does("text " + typing.group(2) + " " + typing.group(1));
        } else if (call.matches()) {
            shown.add(call.group(1));
            check.due(line, calls.ask(call.group(1), numbers(call.group(2))), Long.parseLong(call.group(3)));
        } else {
            check.isTrue("README.md shows a call and its answer: " + line, false);
        }
    }

    /** Arguments are told as numbers or as signs such as '0'. */
    private static int[] numbers(String told) {
        List<Integer> values = new ArrayList<>();
        for (String word : told.split(", ?")) {
            if (word.startsWith("'")) {
                values.add((int) word.charAt(1));
            } else if (!word.isEmpty()) {
                values.add(Integer.parseInt(word));
            }
        }
        return values.stream().mapToInt(v -> v).toArray();
    }

    private static Map<String, Integer> face() {
        Map<String, Integer> parameters = new HashMap<>();
        for (Method m : RoadRiver.class.getDeclaredMethods()) {
            if (Modifier.isPublic(m.getModifiers())) {
                parameters.put(m.getName(), m.getParameterCount());
            }
        }
        return parameters;
    }

    private static void table(String readme) {
        Map<String, Integer> face = face();
        List<String> told = new ArrayList<>();
        Matcher row = ROW.matcher(readme);
        while (row.find()) {
            String name = row.group(1);
            int parameters = row.group(2).isEmpty() ? 0 : row.group(2).split(", ").length;
            check.due("parameters that README.md tells of " + name, parameters, face.getOrDefault(name, -1));
            told.add(name + refusals(row.group(4)));
        }
        check.due("rows of README.md", told.size(), face.size());
        for (String want : REFUSALS) {
            check.isTrue("README.md has a row of a call and its refusals: " + want, told.contains(want));
        }
    }

    private static String refusals(String words) {
        StringBuilder found = new StringBuilder();
        Matcher m = REFUSAL.matcher(words);
        while (m.find()) {
            found.append(' ').append(m.group());
        }
        return found.toString();
    }

    private static void tests(String readme, Path root) throws Exception {
        try (var files = Files.list(root.resolve("src/test/java"))) {
            for (Path file : (Iterable<Path>) files::iterator) {
                String name = file.getFileName().toString().replace(".java", "");
                if (name.endsWith("Test")) {
                    check.isTrue("README.md tells of " + name, readme.contains("`" + name + "`"));
                }
            }
        }
    }
}
