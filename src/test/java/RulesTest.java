import java.lang.reflect.Field;
import java.lang.reflect.Method;
import java.lang.reflect.Modifier;
import java.nio.charset.StandardCharsets;
import java.nio.file.Files;
import java.nio.file.Path;
import java.util.ArrayList;
import java.util.List;
import java.util.Map;
import java.util.Set;
import java.util.TreeMap;
import java.util.TreeSet;
import java.util.regex.Matcher;
import java.util.regex.Pattern;

/** The public face, and rules of LANGUAGE.md that can be seen from the class or its source. */
public final class RulesTest {
    private static final String[] FACE = {
        "type II", "undo I", "wipe I", "fault I", "height I", "level II", "set II", "odds II", "dike III", "read I",
        "breaks ", "possession I", "wet III", "water III", "cost IIIII", "closed II", "deed II", "waits IIIII J",
        "goes IIII", "keep IIIIII", "contract IIII", "tears I", "never I", "gain I J", "watch ", "fact III",
        "forget ", "fit ", "sheet III", "lose I", "lay IIII", "get III", "copy IIIII", "write II", "count I",
        "digest  J"};

    private static final Set<String> LIBRARY = Set.of("Math.min(", "Math.max(", "Integer.bitCount(", "System.arraycopy(");
    private static final int MOST_DEEP = 8;

    private static final Check check = new Check();

    public static void main(String[] args) throws Exception {
        Path root = Path.of(args.length > 0 ? args[0] : ".");
        String source = Files.readString(root.resolve("src/main/java/RoadRiver.java"), StandardCharsets.UTF_8);
        face();
        names();
        members();
        source(bare(source));
        check.end();
    }

    private static void face() throws Exception {
        check.isTrue("the class is public and final",
                Modifier.isPublic(RoadRiver.class.getModifiers()) && Modifier.isFinal(RoadRiver.class.getModifiers()));
        int publicMethods = 0;
        for (Method m : RoadRiver.class.getDeclaredMethods()) {
            check.isTrue(m.getName() + " is public or private",
                    Modifier.isPublic(m.getModifiers()) || Modifier.isPrivate(m.getModifiers()) || m.isSynthetic());
            publicMethods += Modifier.isPublic(m.getModifiers()) ? 1 : 0;
        }
        check.due("public methods", publicMethods, FACE.length);
        for (String row : FACE) {
            String[] words = row.split(" ", 3);
            Class<?>[] kinds = new Class<?>[words[1].length()];
            java.util.Arrays.fill(kinds, int.class);
            Method m = RoadRiver.class.getMethod(words[0], kinds);
            check.isTrue(row, m.getReturnType() == (words.length == 3 ? long.class : int.class));
        }
        check.due("constructors", RoadRiver.class.getDeclaredConstructors().length, 1);
        check.isTrue("public constructor", Modifier.isPublic(RoadRiver.class.getConstructor().getModifiers()));
        check.due("NONE", RoadRiver.NONE, -1);
        check.due("BAD", RoadRiver.BAD, -2);
        check.due("NOT", RoadRiver.NOT, -3);
        check.due("FULL", RoadRiver.FULL, -4);
    }

    private static void names() {
        Set<String> faceNames = new TreeSet<>();
        for (String row : FACE) {
            faceNames.add(row.split(" ")[0]);
        }
        List<Class<?>> classes = new ArrayList<>(List.of(RoadRiver.class.getDeclaredClasses()));
        check.isTrue("at most twelve classes", classes.size() < 12);
        for (Class<?> inner : classes) {
            check.isTrue(inner + " is static", Modifier.isStatic(inner.getModifiers()));
            check.isTrue(inner + " is not public", !Modifier.isPublic(inner.getModifiers()));
        }
        classes.add(RoadRiver.class);
        for (Class<?> one : classes) {
            for (Method m : one.getDeclaredMethods()) {
                check.isTrue(m + " has at most seven parameters", m.getParameterCount() <= 7);
                boolean isOfFace = one == RoadRiver.class && Modifier.isPublic(m.getModifiers());
                check.isTrue(m + " bears no name of the face, if not of it",
                        isOfFace || !faceNames.contains(m.getName()));
            }
        }
    }

    private static void members() {
        List<Class<?>> classes = new ArrayList<>(List.of(RoadRiver.class.getDeclaredClasses()));
        classes.add(RoadRiver.class);
        for (Class<?> one : classes) {
            int fields = 0;
            for (Field f : one.getDeclaredFields()) {
                boolean isStatic = Modifier.isStatic(f.getModifiers());
                fields += isStatic ? 0 : 1;
                check.isTrue(f + " is private or one of the face's", Modifier.isPrivate(f.getModifiers())
                        || one == RoadRiver.class && Set.of("NONE", "BAD", "NOT", "FULL").contains(f.getName()));
                check.isTrue(f + " is final, if static", !isStatic || Modifier.isFinal(f.getModifiers()));
            }
            check.isTrue(one + " has at most twenty fields", fields <= 20);
        }
    }

    /** The source without comments, and with empty texts and signs. */
    private static String bare(String source) {
        return source.replaceAll("(?s)/\\*.*?\\*/", "").replaceAll("//[^\n]*", "")
                .replaceAll("\"[^\"\n]*\"", "\"\"").replaceAll("'[^'\n]+'", "0");
    }

    private static void source(String bare) {
        String[] words = {"throw", "throws", "try", "catch", "synchronized", "assert", "import", "package", "protected",
            "Exception", "hashCode", "toString", "Thread", "Random", "System\\.(?!arraycopy\\b)\\w+", "double", "float",
            "\\w+Exact"};
        for (String word : words) {
            check.isTrue("no " + word, !Pattern.compile("\\b" + word + "\\b").matcher(bare).find());
        }
        check.isTrue("no lambda", !bare.contains("->"));
        check.isTrue("no method reference", !bare.contains("::"));
        check.isTrue("no static block", !Pattern.compile("static\\s*\\{").matcher(bare).find());
        library(bare);
        shortMethods(bare);
    }

    private static void shortMethods(String bare) {
        Matcher m = Pattern.compile("(?m)^(    |        )[a-zA-Z][^\n;=]*?(\\w+)\\([^;{}]*\\) \\{$").matcher(bare);
        Map<String, String> bodies = new TreeMap<>();
        while (m.find()) {
            String end = "\n" + m.group(1) + "}\n";
            int stop = bare.indexOf(end, m.end());
            if (stop < 0 || m.group().trim().matches("(if|for|while|switch)\\b.*")) {
                continue;
            }
            String body = bare.substring(m.end(), stop);
            bodies.merge(m.group(2), body, String::concat);
            long lines = body.chars().filter(c -> c == '\n').count();
            check.isTrue(m.group().trim() + " is short", lines < 60);
        }
        for (String row : FACE) {
            String name = row.split(" ")[0];
            check.isTrue(name + " was seen", bodies.containsKey(name));
            int depth = depth(name, bodies, MOST_DEEP + 1);
            check.isTrue(name + " goes at most eight calls deep, not " + depth, depth <= MOST_DEEP);
        }
    }

    /** Methods of one name are taken as one, so this is never less than what a run can reach. */
    private static int depth(String name, Map<String, String> bodies, int left) {
        int deepest = 0;
        Matcher m = Pattern.compile("(?<!new )\\b(\\w+)\\(").matcher(bodies.get(name));
        while (left > 1 && m.find()) {
            if (bodies.containsKey(m.group(1))) {
                deepest = Math.max(deepest, depth(m.group(1), bodies, left - 1));
            }
        }
        return 1 + deepest;
    }

    private static void library(String bare) {
        Matcher m = Pattern.compile("\\b(Math|Integer|Long|System|String|Arrays)\\.\\w+\\b\\(?").matcher(bare);
        while (m.find()) {
            check.isTrue(m.group() + " is of the library that LANGUAGE.md lists", LIBRARY.contains(m.group()));
        }
    }
}
