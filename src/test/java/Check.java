/** Counts answers that are not as due, and tells a text to a yard. */
final class Check {
    private static final int SHOWN = 40;

    private final String name;
    private int looked;
    private int wrong;

    Check(String name) {
        this.name = name;
    }

    void due(String call, long got, long want) {
        looked++;
        if (got == want) {
            return;
        }
        wrong++;
        if (wrong <= SHOWN) {
            System.out.println(name + ": " + call + " answered " + got + ", due is " + want);
        }
    }

    boolean hasFailed() {
        return wrong > 0;
    }

    void finish() {
        System.out.println(name + ": " + looked + " answers, " + wrong + " not as due");
        if (wrong > 0 || looked == 0) {
            System.exit(1);
        }
    }

    static void type(BesomYard yard, String text) {
        for (int i = 0; i < text.length(); i++) {
            yard.type(text.charAt(i));
        }
    }

    static BesomYard told(String text) {
        BesomYard yard = new BesomYard();
        type(yard, text);
        int items = yard.yard();
        if (items < 0) {
            throw new IllegalStateException("a test's text has a fault: " + text + " " + items);
        }
        return yard;
    }

    /** What yard() answers to a text on a new object. */
    static int read(String text) {
        BesomYard yard = new BesomYard();
        type(yard, text);
        return yard.yard();
    }
}
