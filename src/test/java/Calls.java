import java.lang.reflect.InvocationTargetException;
import java.lang.reflect.Method;
import java.lang.reflect.Modifier;
import java.util.HashMap;
import java.util.Map;

/** A new object and calls on it that are told as texts; no more of them than the document allows. */
final class Calls {
    private static final int MOST_CALLS = 512;
    private static final Map<String, Method> BY_NAME = new HashMap<>();

    static {
        for (Method m : RoadRiver.class.getDeclaredMethods()) {
            if (Modifier.isPublic(m.getModifiers())) {
                BY_NAME.put(m.getName(), m);
            }
        }
    }

    private final RoadRiver x = new RoadRiver();
    private int made = 0;

    /** Calls such as "dike 0 1 2; breaks"; "text 0 123" types each byte of 123. */
    Calls does(String story) {
        for (String call : story.split(";")) {
            String[] words = call.trim().split(" ");
            if (words[0].equals("text")) {
                for (int i = 0; i < words[2].length(); i++) {
                    ask("type", Integer.parseInt(words[1]), words[2].charAt(i));
                }
            } else if (!words[0].isEmpty()) {
                tells(call);
            }
        }
        return this;
    }

    /** The answer of one call such as "dike 0 1 2". */
    long tells(String call) {
        String[] words = call.trim().split(" ");
        int[] values = new int[words.length - 1];
        for (int i = 0; i < values.length; i++) {
            values[i] = Integer.parseInt(words[i + 1]);
        }
        return ask(words[0], values);
    }

    long ask(String name, int... values) {
        made++;
        if (made > MOST_CALLS) {
            throw new IllegalStateException("more calls than an object is used for");
        }
        Object[] boxed = new Object[values.length];
        for (int i = 0; i < values.length; i++) {
            boxed[i] = values[i];
        }
        try {
            return ((Number) BY_NAME.get(name).invoke(x, boxed)).longValue();
        } catch (IllegalAccessException | InvocationTargetException e) {
            throw new IllegalStateException(name + " threw", e);
        }
    }
}
