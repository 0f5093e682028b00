import java.lang.reflect.InvocationTargetException;
import java.lang.reflect.Method;
import java.lang.reflect.Modifier;
import java.util.ArrayList;
import java.util.Arrays;
import java.util.Comparator;
import java.util.HashMap;
import java.util.List;
import java.util.Map;
import java.util.Random;

/** All promises: runs of random calls of fixed seeds, each answer against that of PlainRiver. */
public final class RandomRunsTest {
    private static final int RUNS = 80;
    private static final int CALLS = 512;
    private static final int[] WILD = {Integer.MIN_VALUE, -100, -2, -1, 3, 4, 7, 8, 12, 29, 30, 60, 61, 99, 100,
        256, 65536, Integer.MAX_VALUE};

    /** How many values each argument has when it is as it should be; -1: any number. */
    private static final Map<String, int[]> SIZES = new HashMap<>();

    /** How often a call comes; 1, where nothing is told. */
    private static final Map<String, Integer> SHARES = new HashMap<>();

    private static void tellCalls() {
        tell("type 12 4 256", "undo 2 4", "wipe 1 4", "fault 1 4", "height 1 12", "level 1 3 30", "set 2 7 10",
                "odds 2 3 4", "dike 2 12 12 30", "read 2 4", "breaks 1", "possession 2 3", "wet 2 3 30 12",
                "water 2 3 30 2", "cost 3 3 30 12 12 3", "closed 2 3 12", "deed 2 3 3", "waits 5 3 30 12 12 2",
                "goes 3 3 30 12 12", "keep 5 3 30 12 12 13 3", "contract 3 8 30 100 100", "tears 1 8", "never 2 2",
                "gain 2 2", "watch 1", "fact 2 30 12 2", "forget 1", "fit 2", "sheet 2 4 3 61", "lose 1 4",
                "lay 5 4 3 20 -1", "get 3 4 3 20", "copy 3 4 20 4 20 20", "write 2 3 4", "count 2 9", "digest 1");
    }

    private static void tell(String... calls) {
        for (String call : calls) {
            String[] words = call.split(" ");
            SHARES.put(words[0], Integer.parseInt(words[1]));
            SIZES.put(words[0], Arrays.stream(words).skip(2).mapToInt(Integer::parseInt).toArray());
        }
    }

    public static void main(String[] args) throws Exception {
        tellCalls();
        Check check = new Check();
        Method[] calls = calls();
        int runs = args.length > 1 ? Integer.parseInt(args[1]) : RUNS;
        for (int run = 0; run < runs && !check.hasWrong(); run++) {
            run(check, calls, new Random(run), run);
        }
        check.end();
    }

    private static Method[] calls() {
        List<Method> all = new ArrayList<>();
        for (Method m : RoadRiver.class.getDeclaredMethods()) {
            if (Modifier.isPublic(m.getModifiers())) {
                for (int n = 0; n < SHARES.getOrDefault(m.getName(), 1); n++) {
                    all.add(m);
                }
            }
        }
        all.sort(Comparator.comparing(Method::getName));
        return all.toArray(new Method[0]);
    }

    private static void run(Check check, Method[] calls, Random random, int run) throws Exception {
        RoadRiver x = new RoadRiver();
        PlainRiver y = new PlainRiver();
        int kind = random.nextInt(4);
        List<String> story = new ArrayList<>();
        int made = begin(x, y, random, kind, story);
        for (int n = made; n < CALLS && !check.hasWrong(); n++) {
            Method call = calls[random.nextInt(calls.length)];
            Object[] values = arguments(call, random, kind);
            long due = answer(PlainRiver.class.getDeclaredMethod(call.getName(), call.getParameterTypes()), y, values);
            long got = answer(call, x, values);
            String name = call.getName() + Arrays.toString(values);
            story.add(name);
            check.due("run " + run + ", call " + n + ": " + name, got, due);
        }
        if (check.hasWrong()) {
            System.out.println(story);
        }
    }

    /** Texts that are mostly figures, alike in their first days, so that there is something to tell apart. */
    private static int begin(RoadRiver x, PlainRiver y, Random random, int kind, List<String> story) {
        int made = 0;
        String common = row(random, random.nextInt(12));
        for (int text = 0; text < 4 && kind != 3; text++) {
            String bytes = text == 3 ? row(random, random.nextInt(13))
                    : random.nextInt(4) == 0 ? common : common + row(random, random.nextInt(18));
            for (char c : bytes.toCharArray()) {
                x.type(text, c);
                y.type(text, c);
                made++;
            }
            story.add(text + ": " + bytes);
        }
        return made;
    }

    private static String row(Random random, int length) {
        StringBuilder row = new StringBuilder();
        int most = 2 + random.nextInt(9);
        for (int i = 0; i < length; i++) {
            row.append((char) ('0' + random.nextInt(most)));
        }
        return row.toString();
    }

    private static Object[] arguments(Method call, Random random, int kind) {
        int[] sizes = SIZES.get(call.getName());
        Object[] values = new Object[sizes.length];
        for (int i = 0; i < values.length; i++) {
            values[i] = argument(sizes[i], random);
        }
        if (call.getName().equals("type")) {
            boolean isFigure = kind != 2 || random.nextInt(20) > 0;
            values[1] = isFigure ? '0' + random.nextInt(10) : values[1];
        }
        if (call.getName().equals("lay") && random.nextInt(3) > 0) {
            values[3] = random.nextInt(12);
        }
        return values;
    }

    private static int argument(int size, Random random) {
        if (random.nextInt(40) == 0) {
            return WILD[random.nextInt(WILD.length)];
        }
        if (size < 0) {
            return random.nextInt();
        }
        // small numbers come more often: there are rarely as many yards or items as there may be
        int most = random.nextInt(3) == 0 ? Math.min(size, 5) : size;
        return random.nextInt(most);
    }

    private static long answer(Method call, Object object, Object[] values) throws Exception {
        call.setAccessible(true);
        try {
            return ((Number) call.invoke(object, values)).longValue();
        } catch (InvocationTargetException thrown) {
            throw new IllegalStateException(call.getName() + Arrays.toString(values) + " threw", thrown.getCause());
        }
    }
}
