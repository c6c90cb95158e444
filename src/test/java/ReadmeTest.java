import java.lang.reflect.Method;
import java.lang.reflect.Modifier;
import java.nio.file.Files;
import java.nio.file.Path;
import java.util.ArrayList;
import java.util.List;
import java.util.Set;
import java.util.TreeSet;
import java.util.regex.Matcher;
import java.util.regex.Pattern;

/** What README.md says is what the class answers: its example, its tables of items, calls and refusals. */
public final class ReadmeTest {
    private static final Check CHECK = new Check("readme");
    private static final Pattern LETTERS = Pattern.compile("for \\(char letter : \"([^\"]*)\"\\.toCharArray\\(\\)\\) \\{");
    private static final Pattern CALL = Pattern.compile("yard\\.(\\w+)\\(([^)]*)\\); +// (-?\\d+|[A-Z]+): .+");
    private static final Pattern RANGE = Pattern.compile("(\\d+) \\.\\. (\\d+)");
    private static final String SINGLE = "rtpl";

    public static void main(String[] args) throws Exception {
        List<String> page = Files.readAllLines(Path.of("README.md"));
        example(page);
        items(page);
        calls(page);
        refusals(page);
        CHECK.due("names the command that runs the tests", page.contains("    .ci/run") ? 1 : 0, 1);
        CHECK.finish();
    }

    private static void example(List<String> page) {
        int from = page.indexOf("```java");
        int to = from < 0 ? -1 : from + page.subList(from, page.size()).indexOf("```");
        CHECK.due("the page has an example", from >= 0 && to > from ? 1 : 0, 1);
        if (from < 0 || to <= from) {
            return;
        }
        BesomYard yard = new BesomYard();
        int answers = 0;
        for (String line : page.subList(from + 1, to)) {
            Matcher letters = LETTERS.matcher(line);
            Matcher call = CALL.matcher(line);
            if (letters.matches()) {
                Check.type(yard, letters.group(1));
            } else if (call.matches()) {
                play(yard, call);
                answers++;
            } else {
                boolean frame = Set.of("", "BesomYard yard = new BesomYard();", "    yard.type(letter);", "}").contains(line);
                CHECK.due("a line of the example that is not understood: " + line, frame ? 0 : 1, 0);
            }
        }
        CHECK.due("the example has answers", answers > 0 ? 1 : 0, 1);
    }

    private static void play(BesomYard yard, Matcher call) {
        StringBuilder row = new StringBuilder(call.group(1));
        for (String argument : call.group(2).split(", *")) {
            boolean letter = argument.matches("'.'");
            row.append(' ').append(letter ? String.valueOf((int) argument.charAt(1)) : argument);
        }
        Row played = Row.all(row + " = " + call.group(3)).get(0);
        CHECK.due(call.group(), played.play(yard)[0], played.due()[0]);
    }

    /** The cells of the rows whose first cell is code, under a heading. */
    private static List<String[]> table(List<String> page, String heading) {
        List<String[]> rows = new ArrayList<>();
        int from = page.indexOf(heading);
        for (int at = from + 1; from >= 0 && at < page.size() && !page.get(at).startsWith("#"); at++) {
            if (page.get(at).startsWith("| `")) {
                String[] cells = page.get(at).substring(2).split(" *\\| *");
                cells[0] = cells[0].replace("`", "");
                rows.add(cells);
            }
        }
        return rows;
    }

    private static void items(List<String> page) {
        List<String[]> rows = table(page, "### The text");
        CHECK.due("items in the table", rows.size(), 6);
        StringBuilder heads = new StringBuilder();
        for (String[] row : rows) {
            List<int[]> ranges = new ArrayList<>();
            Matcher range = RANGE.matcher(row[2]);
            while (range.find()) {
                ranges.add(new int[] {Integer.parseInt(range.group(1)), Integer.parseInt(range.group(2))});
            }
            heads.append(row[0].charAt(0));
            CHECK.due(row[0] + " has as many numbers", ranges.size(), row[0].split(" ").length - 1);
            numbers(row[0].charAt(0), ranges);
            howMany(item(row[0].charAt(0), ranges, -1, 0), Integer.parseInt(row[4]));
            int single = SINGLE.indexOf(row[0].charAt(0));
            if (single >= 0) {
                CHECK.due(row[0] + " if not told", new BesomYard().count(2 + single), Integer.parseInt(row[3]));
            }
        }
        CHECK.due("the items are " + heads, heads.toString().equals("wortpl") ? 1 : 0, 1);
    }

    /** An item whose numbers are the least ones, but for one of them. */
    private static String item(char head, List<int[]> ranges, int other, int number) {
        StringBuilder item = new StringBuilder().append(head);
        for (int i = 0; i < ranges.size(); i++) {
            item.append(' ').append(i == other ? number : ranges.get(i)[0]);
        }
        return item.append(';').toString();
    }

    private static void numbers(char head, List<int[]> ranges) {
        for (int i = 0; i < ranges.size(); i++) {
            for (int number = 0; number <= 100; number++) {
                String item = item(head, ranges, i, number);
                boolean may = number >= ranges.get(i)[0] && number <= ranges.get(i)[1];
                CHECK.due(item + " is read", Check.read(item) == 1 ? 1 : 0, may ? 1 : 0);
            }
        }
    }

    private static void howMany(String item, int most) {
        CHECK.due(most + " times " + item, Check.read(item.repeat(most)), most);
        CHECK.due(most + " times and once more " + item, Check.read(item.repeat(most + 1)), -10 - most * item.length());
    }

    private static void calls(List<String> page) {
        Set<String> listed = new TreeSet<>();
        for (String[] row : table(page, "### The calls")) {
            String inside = row[0].replaceAll(".*\\(|\\)", "");
            int parameters = inside.isEmpty() ? 0 : inside.split(",").length;
            CHECK.due(row[0] + " is listed once", listed.add(row[0].replaceAll("\\(.*", " ") + parameters) ? 1 : 0, 1);
        }
        Set<String> face = new TreeSet<>(Set.of("BesomYard 0"));
        for (Method m : BesomYard.class.getDeclaredMethods()) {
            if (Modifier.isPublic(m.getModifiers())) {
                face.add(m.getName() + " " + m.getParameterCount());
            }
        }
        CHECK.due("listed are " + listed + ", there are " + face, listed.equals(face) ? 1 : 0, 1);
    }

    private static void refusals(List<String> page) throws Exception {
        List<String> order = new ArrayList<>();
        for (String[] row : table(page, "### Refused calls")) {
            order.add(row[0]);
            CHECK.due(row[0], BesomYard.class.getField(row[0]).getInt(null), Integer.parseInt(row[1]));
        }
        CHECK.due("refusals in their order: " + order, order.equals(List.of("BAD", "STATE", "FULL")) ? 1 : 0, 1);
        Matcher named = Pattern.compile("`(NO|NONE)` \\((-\\d+)\\)").matcher(String.join("\n", page));
        int found = 0;
        while (named.find()) {
            found++;
            CHECK.due(named.group(), BesomYard.class.getField(named.group(1)).getInt(null), Integer.parseInt(named.group(2)));
        }
        CHECK.due("NO and NONE are told", found, 2);
    }
}
