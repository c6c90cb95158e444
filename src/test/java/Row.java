import java.lang.reflect.InvocationTargetException;
import java.lang.reflect.Method;
import java.util.ArrayList;
import java.util.HashMap;
import java.util.List;
import java.util.Map;
import java.util.Set;

/**
 * A row of a run, as the tests write it: "binds 3 = 1" is a call and the answer that is due,
 * "12x year" a call done twelve times, "text w1 1;" types letters, "sides", "nows", "counts" ask all of those.
 */
final class Row {
    private static final Map<String, Long> NAMED = Map.of("BAD", -1L, "STATE", -2L, "FULL", -3L, "NONE", -9L,
            "NO", -1000000L, "MIN", (long) Integer.MIN_VALUE, "MAX", (long) Integer.MAX_VALUE);
    private static final Set<String> QUESTIONS = Set.of("part", "order", "side", "now", "inYears", "turn", "plan",
            "kept", "next", "lack", "cutFor", "allBy", "lasts", "latest", "which", "odds", "count", "trace",
            "sides", "nows", "counts");
    private static final Map<String, Method> FACE = face();

    private final String written;
    private final String name;
    private final String letters;
    private final int times;
    private final int[] args;
    private final long[] due;

    private Row(String written) {
        this.written = written;
        boolean types = written.startsWith("text ");
        letters = types ? written.substring(5) : "";
        String[] halves = types ? new String[] {"text"} : written.split(" *= *");
        String[] words = halves[0].trim().split(" +");
        boolean repeats = words[0].matches("[0-9]+x");
        int at = repeats ? 1 : 0;
        times = repeats ? Integer.parseInt(words[0].substring(0, words[0].length() - 1)) : 1;
        name = words[at];
        args = new int[words.length - at - 1];
        for (int i = 0; i < args.length; i++) {
            args[i] = (int) number(words[at + 1 + i]);
        }
        due = halves.length < 2 ? null : numbers(halves[1]);
    }

    static List<Row> all(String script) {
        List<Row> rows = new ArrayList<>();
        for (String line : script.split("\n")) {
            if (!line.isBlank()) {
                // Blanks at the end of a text are letters of it.
                rows.add(new Row(line.stripLeading()));
            }
        }
        return rows;
    }

    String written() {
        return written;
    }

    /** What is due; null where the answer is not looked at. */
    long[] due() {
        return due;
    }

    int calls() {
        if (name.equals("text")) {
            return letters.length();
        }
        return name.equals("sides") || name.equals("nows") || name.equals("counts") ? 8 : times;
    }

    /** Whether the document says that nothing changes by this row: a question, or a refused call. */
    boolean changesNothing() {
        if (QUESTIONS.contains(name)) {
            return true;
        }
        if (due == null || due.length != 1 || times != 1) {
            return false;
        }
        if (name.equals("rate")) {
            return due[0] == -1000000L;
        }
        return name.equals("yard") ? due[0] < 0 : due[0] >= -3 && due[0] < 0;
    }

    /** What it answers, of several times the last. */
    long[] play(BesomYard yard) {
        switch (name) {
            case "text":
                Check.type(yard, letters);
                return new long[0];
            case "sides":
                return eight(yard, "side");
            case "nows":
                return eight(yard, "now");
            case "counts":
                return eight(yard, "count");
            default:
                long answer = 0;
                for (int i = 0; i < times; i++) {
                    answer = call(yard, name, args);
                }
                return new long[] {answer};
        }
    }

    private static long[] eight(BesomYard yard, String question) {
        long[] all = new long[8];
        for (int i = 0; i < 8; i++) {
            all[i] = call(yard, question, i);
        }
        return all;
    }

    private static long call(BesomYard yard, String name, int... args) {
        Object[] boxed = new Object[args.length];
        for (int i = 0; i < args.length; i++) {
            boxed[i] = args[i];
        }
        try {
            return ((Number) FACE.get(name).invoke(yard, boxed)).longValue();
        } catch (IllegalAccessException | InvocationTargetException e) {
            throw new IllegalStateException(name, e);
        }
    }

    private static Map<String, Method> face() {
        Map<String, Method> face = new HashMap<>();
        for (Method m : BesomYard.class.getMethods()) {
            if (m.getDeclaringClass() == BesomYard.class) {
                face.put(m.getName(), m);
            }
        }
        return face;
    }

    private static long number(String word) {
        return NAMED.containsKey(word) ? NAMED.get(word) : Long.parseLong(word);
    }

    private static long[] numbers(String words) {
        String[] split = words.trim().split(" +");
        long[] all = new long[split.length];
        for (int i = 0; i < all.length; i++) {
            all[i] = number(split[i]);
        }
        return all;
    }
}
