import java.lang.management.ManagementFactory;
import java.lang.reflect.Field;
import java.lang.reflect.Method;
import java.lang.reflect.Modifier;
import java.nio.file.Files;
import java.nio.file.Path;
import java.util.Set;
import java.util.TreeSet;
import java.util.regex.Matcher;
import java.util.regex.Pattern;

/** The face is the document's and no more; the source keeps to those rules of LANGUAGE.md that can be seen by words. */
public final class LanguageTest {
    private static final Check CHECK = new Check("language");
    private static final String[] FACE = {
        "type int", "clear", "yard", "part int int", "order int int", "side int", "now int", "cuts int", "year",
        "binds int", "sends int", "sweeps", "spins int", "undo", "inYears int int", "turn int int", "plan int int",
        "kept int", "next int", "lack", "cutFor", "allBy", "lasts int", "latest", "saw int int int", "forget", "which",
        "odds int int int int", "rate int int", "keep int", "back int", "count int", "trace"};
    private static final String[] CONSTANTS = {"BAD", "STATE", "FULL", "NONE", "NO"};
    private static final String[] FORBIDDEN = {
        "throw", "throws", "try", "catch", "synchronized", "assert", "import", "package", "protected", "volatile",
        "transient", "native", "equals", "hashCode", "toString", "double", "float", "var", "Object", "Random", "Thread",
        "\\w+Exact", "System\\.(?!arraycopy)\\w+", "->", "::"};

    public static void main(String[] args) throws Exception {
        face();
        names();
        sizes(BesomYard.class);
        for (Class<?> inside : BesomYard.class.getDeclaredClasses()) {
            sizes(inside);
        }
        words();
        room();
        CHECK.finish();
    }

    private static void sameSet(String what, Set<String> got, Set<String> want) {
        Set<String> more = new TreeSet<>(got);
        more.removeAll(want);
        Set<String> less = new TreeSet<>(want);
        less.removeAll(got);
        CHECK.due(what + ": too many " + more + ", missing " + less, more.size() + less.size(), 0);
    }

    private static void face() {
        Set<String> methods = new TreeSet<>();
        for (Method m : BesomYard.class.getDeclaredMethods()) {
            boolean open = !Modifier.isPrivate(m.getModifiers());
            if (open && !m.isSynthetic()) {
                StringBuilder row = new StringBuilder(m.getName());
                for (Class<?> type : m.getParameterTypes()) {
                    row.append(' ').append(type);
                }
                methods.add(row.toString());
                Class<?> due = m.getName().equals("trace") ? long.class : int.class;
                CHECK.due(m.getName() + " is public, not static", m.getModifiers(), Modifier.PUBLIC);
                CHECK.due(m.getName() + " answers " + due, m.getReturnType() == due ? 1 : 0, 1);
            }
        }
        sameSet("methods", methods, Set.of(FACE));
        Set<String> fields = new TreeSet<>();
        for (Field f : BesomYard.class.getDeclaredFields()) {
            if (!Modifier.isPrivate(f.getModifiers())) {
                fields.add(f.getName());
                CHECK.due(f.getName() + " is public static final", f.getModifiers(),
                        Modifier.PUBLIC | Modifier.STATIC | Modifier.FINAL);
                CHECK.due(f.getName() + " is an int", f.getType() == int.class ? 1 : 0, 1);
            }
        }
        sameSet("constants", fields, Set.of(CONSTANTS));
        CHECK.due("one constructor", BesomYard.class.getDeclaredConstructors().length, 1);
        CHECK.due("it is public", BesomYard.class.getDeclaredConstructors()[0].getModifiers(), Modifier.PUBLIC);
        CHECK.due("it takes nothing", BesomYard.class.getDeclaredConstructors()[0].getParameterCount(), 0);
        CHECK.due("public, final", BesomYard.class.getModifiers(), Modifier.PUBLIC | Modifier.FINAL);
        CHECK.due("twelve classes at most", BesomYard.class.getDeclaredClasses().length < 12 ? 1 : 0, 1);
    }

    private static void names() {
        Set<String> open = new TreeSet<>();
        for (String row : FACE) {
            open.add(row.split(" ")[0]);
        }
        for (Method m : BesomYard.class.getDeclaredMethods()) {
            boolean hidden = Modifier.isPrivate(m.getModifiers());
            CHECK.due("private " + m.getName(), hidden && open.contains(m.getName()) ? 1 : 0, 0);
        }
        for (Class<?> inside : BesomYard.class.getDeclaredClasses()) {
            CHECK.due(inside + " is static", Modifier.isStatic(inside.getModifiers()) ? 1 : 0, 1);
            for (Method m : inside.getDeclaredMethods()) {
                CHECK.due(inside + " " + m.getName(), open.contains(m.getName()) ? 1 : 0, 0);
            }
            for (Field f : inside.getDeclaredFields()) {
                boolean changing = Modifier.isStatic(f.getModifiers()) && !Modifier.isFinal(f.getModifiers());
                CHECK.due(inside + " " + f.getName(), changing ? 1 : 0, 0);
            }
        }
    }

    private static void sizes(Class<?> type) {
        for (Method m : type.getDeclaredMethods()) {
            CHECK.due(type + " " + m.getName() + ": seven parameters at most", m.getParameterCount() > 7 ? 1 : 0, 0);
        }
        int fields = 0;
        for (Field f : type.getDeclaredFields()) {
            fields += Modifier.isStatic(f.getModifiers()) ? 0 : 1;
        }
        CHECK.due(type + ": twenty fields at most, it has " + fields, fields > 20 ? 1 : 0, 0);
    }

    private static void words() throws Exception {
        String source = Files.readString(Path.of("src/main/java/BesomYard.java"));
        String code = source.replaceAll("(?s)/\\*.*?\\*/", " ").replaceAll("//[^\n]*", " ")
                .replaceAll("\"[^\"\n]*\"", "\"\"").replaceAll("'[^'\n]*'", "' '");
        for (String word : FORBIDDEN) {
            boolean plain = Character.isLetter(word.charAt(0)) || word.charAt(0) == '\\';
            Matcher found = Pattern.compile(plain ? "\\b" + word + "\\b" : word).matcher(code);
            CHECK.due("the word " + word, found.find() ? 1 : 0, 0);
        }
        for (String line : source.split("\n")) {
            CHECK.due("signs 1 to 127: " + line, line.chars().allMatch(c -> c > 0 && c < 128) ? 1 : 0, 1);
        }
        // A method's first line and its last one have the same indent.
        Matcher method = Pattern.compile("(?ms)^( {4}| {8})(?!if|for|while|switch|private static final class)\\w[^\n]*\\{$"
                + ".*?^\\1\\}$").matcher(source);
        int methods = 0;
        while (method.find()) {
            methods++;
            long lines = method.group().chars().filter(c -> c == '\n').count() + 1;
            CHECK.due(method.group().split("\n")[0] + " has " + lines + " lines", lines > 60 ? 1 : 0, 0);
        }
        CHECK.due("methods were found", methods > FACE.length ? 1 : 0, 1);
    }

    /** What is made is made by the constructor: calls on an object make nothing. */
    private static void room() {
        if (!(ManagementFactory.getThreadMXBean() instanceof com.sun.management.ThreadMXBean bean)) {
            return;
        }
        long id = Thread.currentThread().getId();
        useAll(Check.told("w9 9;w8 8;w7 7;w6 6;w5 5;w4 4;o5 3 9;o9 20 30;o7 12 3;t1;"));
        BesomYard yard = Check.told("w9 9;w8 8;w7 7;w6 6;w5 5;w4 4;o5 3 9;o9 20 30;o7 12 3;t1;");
        long before = bean.getThreadAllocatedBytes(id);
        for (int i = 0; i < 200; i++) {
            useAll(yard);
        }
        long made = bean.getThreadAllocatedBytes(id) - before;
        // The measuring itself makes a little.
        CHECK.due("bytes made by 200 rounds of calls: " + made, made < 4096 ? 0 : 1, 0);
    }

    private static void useAll(BesomYard y) {
        y.cuts(0);
        y.year();
        y.binds(2);
        y.sends(0);
        y.sweeps();
        y.spins(3);
        y.undo();
        y.plan(4, -1);
        y.kept(0);
        y.next(1);
        y.cutFor();
        y.latest();
        y.saw(3, 3, 3);
        y.which();
        y.odds(3, 6, 2, 0);
        y.rate(3, 1);
        y.keep(0);
        y.back(0);
        y.turn(3, 2);
        y.type('x');
        y.yard();
        y.clear();
    }
}
