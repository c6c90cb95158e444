import java.util.List;

/**
 * Runs of calls at the bounds that the document names, each under its promise's number. Behind
 * each question and each refused call of a run the yard is held against one that was not asked.
 */
final class Bounds {
    /** A yard in which there is something of everything, and more was done than can be undone. */
    static final String RICH_TEXT = "w9 9;w5 4;w1 30;o2 3 7;o60 60 99;o5 1 2;r8;t2;p5;l7;";
    static final String RICH_DEEDS = """
            cuts 0 = 45
            binds 7 = 2
            sends 0 = 7
            sweeps = 5
            spins 3 = 3
            keep 1 = 2
            sweeps = 5
            12x year = 12
            saw 1 3 3 = 1
            saw 2 6 7 = 2
            rate 3 1
            text w2 3;o4 5 6;
            """;
    private static final int CALLS = 512;
    private static final int PROMISES = 34;

    private final Check check;
    private final int[] tested = new int[PROMISES + 1];
    private int promise;

    Bounds(String name) {
        check = new Check(name);
    }

    /** What is looked at from here on belongs to this promise. */
    void promise(int number) {
        promise = number;
    }

    void due(String call, long got, long want) {
        tested[promise]++;
        check.due("promise " + promise + ": " + call, got, want);
    }

    /** A run on a new object that was told a text, within the calls that an object is used for. */
    void run(String text, String script) {
        List<Row> rows = Row.all("text " + text + "\nyard\n" + script);
        due("'" + text + "' has no fault", Check.read(text) < 0 ? 1 : 0, 0);
        play("'" + text + "'", rows, CALLS);
    }

    /** A run on a new object. */
    void runNew(String script) {
        play("new", Row.all(script), CALLS);
    }

    /** A run on a new object that goes on where the document leaves free what is answered. */
    void runBeyond(String script) {
        play("new", Row.all(script), Integer.MAX_VALUE);
    }

    /** The same rows where there is nothing, and where there is something of everything. */
    void runEverywhere(String script) {
        runNew(script);
        run(RICH_TEXT, RICH_DEEDS + script);
    }

    /** Two runs on objects that were told the same text must end alike. */
    void same(String what, String text, String script, String other) {
        String told = "text " + text + "\nyard\n";
        alike(what, Row.all(told + script), Row.all(told + other));
    }

    /** Fails too if one of these promises was not looked at. */
    void finish(int... promises) {
        for (int number : promises) {
            check.due("promise " + number + " is tested", tested[number] > 0 ? 1 : 0, 1);
        }
        check.finish();
    }

    private void play(String name, List<Row> rows, int callsMost) {
        BesomYard yard = new BesomYard();
        int calls = 0;
        for (int at = 0; at < rows.size(); at++) {
            Row row = rows.get(at);
            compare(name + " row " + at + ", " + row.written(), row.play(yard), row.due());
            calls += row.calls();
            if (row.changesNothing()) {
                alike(name + " row " + at + ", " + row.written() + " changes nothing",
                        rows.subList(0, at + 1), rows.subList(0, at));
            }
        }
        due(name + " has " + calls + " calls", calls > callsMost ? 1 : 0, 0);
    }

    private void compare(String what, long[] got, long[] want) {
        if (want == null) {
            return;
        }
        due(what + ", how many", got.length, want.length);
        for (int i = 0; i < got.length && i < want.length; i++) {
            due(want.length > 1 ? what + " [" + i + "]" : what, got[i], want[i]);
        }
    }

    private void alike(String what, List<Row> rows, List<Row> others) {
        List<String> got = Probe.of(played(rows));
        List<String> want = Probe.of(played(others));
        for (int i = 0; i < want.size(); i++) {
            if (!got.get(i).equals(want.get(i))) {
                due(what + ": " + got.get(i) + " and not " + want.get(i), 1, 0);
                return;
            }
        }
        due(what, got.size(), want.size());
    }

    private static BesomYard played(List<Row> rows) {
        BesomYard yard = new BesomYard();
        for (Row row : rows) {
            row.play(yard);
        }
        return yard;
    }
}
