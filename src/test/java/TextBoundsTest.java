/** Promises 1 to 4 at their bounds: a new object, and all that a text may be. */
public final class TextBoundsTest {
    private static final Bounds B = new Bounds("text bounds");
    private static final int LETTERS = 200;
    private static final String SIX_PARTS = "w9 30;w9 30;w9 30;w9 30;w9 30;w9 30;";
    private static final String SIX_ORDERS = "o60 60 99;o60 60 99;o60 60 99;o60 60 99;o60 60 99;o60 60 99;";
    private static final String LONGEST = SIX_PARTS + SIX_ORDERS + "r15;t20;p20;l15;";
    // An item's numbers: head, then least and most of each.
    private static final String[] HEADS = {"w", "o", "r", "t", "p", "l"};
    private static final int[][] RANGES = {{1, 9, 0, 30}, {1, 60, 1, 60, 0, 99}, {3, 15}, {1, 20}, {1, 20}, {1, 15}};

    public static void main(String[] args) {
        newObject();
        objectsShareNothing();
        typedLetters();
        fullText();
        cleared();
        numbersByRange();
        numbersAreTold();
        numbersWithZeroAhead();
        sixAtMost();
        onceAtMost();
        everyLetter();
        blanks();
        endsTooEarly();
        firstFaultCounts();
        twoHundredLetters();
        faultChangesNothing();
        readAnew();
        B.finish(1, 2, 3, 4);
    }

    private static void newObject() {
        B.promise(1);
        B.runNew("""
                nows = 0 0 0 0 0 0 0 0
                counts = 0 0 9 3 11 9 0 0
                sides = 9 9 9 9 9 9 9 9
                trace = 0
                part 0 0 = BAD
                order 0 0 = BAD
                cuts 0 = BAD
                sends 0 = BAD
                inYears 0 0 = BAD
                rate 0 0 = NO
                binds 1 = STATE
                undo = STATE
                back 0 = STATE
                back 1 = STATE
                next 0 = NONE
                next 1 = NONE
                kept 0 = 0
                kept 1 = 0
                lack = 0
                cutFor = 0
                allBy = 0
                plan 1 -1 = 0
                plan 4 3 = -5
                which = 255
                forget = 0
                clear = 0
                """);
    }

    private static void objectsShareNothing() {
        B.promise(1);
        BesomYard untouched = new BesomYard();
        BesomYard used = Check.told("w1 9;o9 1 1;r3;t1;p1;l1;");
        used.cuts(0);
        used.year();
        used.sweeps();
        used.saw(0, 0, 0);
        used.keep(0);
        used.rate(0, 0);
        used.type('w');
        B.due("parts of another object", untouched.count(0), 0);
        B.due("ripe of another object", untouched.count(2), 9);
        B.due("seen by another object", untouched.count(6), 0);
        B.due("text of another object", untouched.count(7), 0);
        B.due("year of another object", untouched.now(1), 0);
        B.due("side of another object", untouched.side(0), 9);
        B.due("image of another object", untouched.back(0), -2);
        B.due("trace of another object", untouched.trace(), 0);
        B.due("undone of another object", untouched.undo(), -2);
    }

    private static void typedLetters() {
        B.promise(2);
        // 375 is w and 256: no letter, though its lowest bits are one.
        B.runEverywhere("""
                type -1 = BAD
                type 256 = BAD
                type 375 = BAD
                type -137 = BAD
                type MIN = BAD
                type MAX = BAD
                """);
        B.runNew("""
                type 0 = 1
                type 255 = 2
                count 7 = 2
                now 7 = 0
                undo = STATE
                """);
        BesomYard yard = new BesomYard();
        for (int letter = 0; letter < LETTERS; letter++) {
            B.due("type " + letter, yard.type(letter), letter + 1);
        }
        yard.clear();
        for (int letter = LETTERS; letter < 256; letter++) {
            B.due("type " + letter, yard.type(letter), letter - LETTERS + 1);
        }
    }

    private static void fullText() {
        B.promise(2);
        B.runNew("""
                199x type 32 = 199
                count 7 = 199
                type 32 = 200
                type 32 = FULL
                type 0 = FULL
                type 255 = FULL
                type 256 = BAD
                type -1 = BAD
                count 7 = 200
                clear = 200
                type 119 = 1
                """);
        // The letter that was refused is not read; behind the reading there is room again.
        B.runNew("""
                200x type 32 = 200
                type 120 = FULL
                yard = 0
                type 32 = 1
                """);
        B.runNew("""
                200x type 120 = 200
                yard = -10
                type 32 = FULL
                count 7 = 200
                """);
    }

    private static void cleared() {
        B.promise(3);
        B.runNew("""
                clear = 0
                type 120 = 1
                clear = 1
                clear = 0
                count 7 = 0
                yard = 0
                199x type 120 = 199
                type 120 = 200
                clear = 200
                clear = 0
                """);
        // The letters are gone, not only their number.
        B.runNew("""
                text w1 1;x
                clear = 6
                text w2 3;
                yard = 1
                part 0 0 = 2
                """);
        B.runNew("""
                text w1 12;
                clear = 6
                text w1 1
                yard = -14
                clear = 4
                text w1
                yard = -12
                """);
        String noText = Bounds.RICH_DEEDS.replaceAll("(?m)^text.*$", "");
        B.same("clear leaves all but the text", Bounds.RICH_TEXT, Bounds.RICH_DEEDS + "clear", noText);
    }

    /** An item of this head whose number at a place is as given, the others being the least they may be. */
    private static String item(int head, int place, String number) {
        StringBuilder item = new StringBuilder(HEADS[head]);
        for (int i = 0; i < RANGES[head].length / 2; i++) {
            item.append(i > 0 ? " " : "").append(i == place ? number : "" + RANGES[head][2 * i]);
        }
        return item.append(';').toString();
    }

    private static int numbersOf(int head) {
        return RANGES[head].length / 2;
    }

    /** Where a number of an item stands, the ones ahead of it having one digit each. */
    private static int placeOf(int place) {
        return 1 + 2 * place;
    }

    private static void fault(String text, int place) {
        B.due("fault of '" + text + "'", Check.read(text), -10 - place);
    }

    private static void reads(String text, int items) {
        B.due("items of '" + text + "'", Check.read(text), items);
    }

    private static void numbersByRange() {
        B.promise(4);
        for (int head = 0; head < HEADS.length; head++) {
            for (int place = 0; place < numbersOf(head); place++) {
                for (int number = 0; number <= 110; number++) {
                    String text = item(head, place, "" + number);
                    boolean within = number >= RANGES[head][2 * place] && number <= RANGES[head][2 * place + 1];
                    if (within) {
                        reads(text, 1);
                    } else {
                        fault(text, placeOf(place));
                    }
                }
            }
        }
    }

    private static void numbersAreTold() {
        B.promise(4);
        B.run("w1 0;w9 30;o1 1 0;o60 60 99;r3;t1;p1;l1;", """
                counts = 2 2 3 1 1 1 0 0
                part 0 0 = 1
                part 0 1 = 0
                part 1 0 = 9
                part 1 1 = 30
                order 0 0 = 1
                order 0 1 = 1
                order 0 2 = 0
                order 1 0 = 60
                order 1 1 = 60
                order 1 2 = 99
                sides = 1 1 1 1 1 1 1 1
                """);
        B.run("r15;t20;p20;l15;", """
                counts = 0 0 15 20 20 15 0 0
                sides = 15 15 15 15 15 15 15 15
                """);
    }

    private static void numbersWithZeroAhead() {
        B.promise(4);
        String[] wrong = {"00", "01", "03", "09", "010", "000", "100", "999", "1000", "4294967297", "18446744073709551619",
            "3".repeat(150), "0".repeat(150)};
        for (int head = 0; head < HEADS.length; head++) {
            for (int place = 0; place < numbersOf(head); place++) {
                for (String number : wrong) {
                    fault(item(head, place, number), placeOf(place));
                }
            }
        }
        // Such a number is a fault where none may stand, too: at its first digit.
        fault("w1 1;007", 5);
        fault("100", 0);
        fault("w1 1 00;", 5);
        fault("w1 1 100", 5);
        // Blanks part numbers: these are two each.
        fault("w1 0 0;", 5);
        reads("w1 0;", 1);
        reads("o1 1 0;", 1);
    }

    private static void sixAtMost() {
        B.promise(4);
        reads(SIX_PARTS, 6);
        reads(SIX_ORDERS, 6);
        reads(SIX_PARTS + SIX_ORDERS, 12);
        reads(LONGEST, 16);
        fault(SIX_PARTS + "w1 1;", 36);
        fault(SIX_PARTS + "  w", 38);
        fault(SIX_ORDERS + "o1 1 1;", 60);
        fault(SIX_ORDERS + " o", 61);
        fault(SIX_PARTS + SIX_ORDERS + "w1 1;", 96);
        fault(SIX_ORDERS + SIX_PARTS + "o1 1 1;", 96);
        fault("w1 1;w1 1;r9;w1 1;w1 1;o1 1 1;w1 1;w1 1;t1;w1 1;", 43);
        B.run(SIX_PARTS + SIX_ORDERS, """
                count 0 = 6
                count 1 = 6
                part 5 0 = 9
                part 6 0 = BAD
                order 5 2 = 99
                order 6 2 = BAD
                """);
    }

    private static void onceAtMost() {
        B.promise(4);
        for (String head : new String[] {"r", "t", "p", "l"}) {
            String once = head + "9;";
            reads(once, 1);
            fault(once + once, 3);
            fault(once + " " + head, 4);
            fault(once + "w1 1;o1 1 1;" + once, 15);
            // The head is the fault, not what is wrong behind it.
            fault(once + head + "99;", 3);
        }
        reads("r9;t9;p9;l9;", 4);
        fault("r9;t9;p9;l9;l9;", 12);
    }

    private static void everyLetter() {
        B.promise(4);
        for (int letter = 0; letter < 256; letter++) {
            String sign = "" + (char) letter;
            boolean blank = letter == 32;
            boolean head = letter > 0 && "wortpl".contains(sign);
            boolean digit = letter >= '0' && letter <= '9';
            B.due("yard of letter " + letter, Check.read(sign), blank ? 0 : head ? -11 : -10);
            B.due("yard of an item, letter " + letter, Check.read("w1 1;" + sign), blank ? 1 : head ? -16 : -15);
            B.due("yard of w, letter " + letter, Check.read("w" + sign), blank || digit && letter > '0' ? -12 : -11);
            B.due("yard of w1 blank, letter " + letter, Check.read("w1 " + sign), blank || digit ? -14 : -13);
            // 1 and another digit make an AGE of 10 to 19.
            int behindAge = letter == ';' ? 1 : blank || digit ? -15 : -14;
            B.due("yard of w1 1, letter " + letter, Check.read("w1 1" + sign), behindAge);
        }
    }

    private static void blanks() {
        B.promise(4);
        reads("   ", 0);
        reads("  w  1   0  ;  ", 1);
        reads("w1 0;   o 1 1 1 ;", 2);
        reads("w 1 0;", 1);
        for (int letter : new int[] {0, 9, 10, 11, 12, 13, 31, 33, 127, 133, 160, 255}) {
            fault("w1" + (char) letter + "1;", 2);
            fault(" " + (char) letter, 1);
        }
        // A number and a letter need none between them; two numbers do.
        fault("w11;", 1);
        fault("o111;", 1);
        fault("o11 1;", 5);
    }

    private static void endsTooEarly() {
        B.promise(4);
        reads("", 0);
        String whole = "w1 2;o3 4 5;r6;t7;p8;l9;";
        for (int length = 0; length <= whole.length(); length++) {
            String text = whole.substring(0, length);
            boolean ended = text.isEmpty() || text.endsWith(";");
            int items = (int) text.chars().filter(c -> c == ';').count();
            B.due("yard of '" + text + "'", Check.read(text), ended ? items : -10 - length);
            B.due("yard of '" + text + "  '", Check.read(text + "  "), ended ? items : -12 - length);
        }
    }

    private static void firstFaultCounts() {
        B.promise(4);
        fault("w0 x", 1);
        fault("w1;x", 2);
        fault("w1;100", 2);
        fault("w10 31;", 1);
        fault("w1 31;w0 0;", 3);
        fault("x100", 0);
        fault("100x", 0);
        fault("r2", 1);
        fault("w1 1 1", 5);
        fault(";;", 0);
        fault("w1 1;;", 5);
        fault("ww1 1;", 1);
        fault("o1 1;", 4);
        fault("o1 1 1 1;", 7);
        fault("r9 9;", 3);
        fault("r;", 1);
    }

    private static String filled(String text, int length) {
        return text + " ".repeat(length - text.length());
    }

    private static void twoHundredLetters() {
        B.promise(4);
        reads(filled("", LETTERS), 0);
        reads(filled(LONGEST, LETTERS), 16);
        reads(filled("", LETTERS - LONGEST.length()) + LONGEST, 16);
        fault(filled(LONGEST, LETTERS - 1) + "x", 199);
        fault(filled(LONGEST, LETTERS - 1) + "w", 199);
        fault(filled("w1 1", LETTERS), 200);
        fault(filled("", LETTERS - 1) + "w", 200);
        fault(filled("", LETTERS - 3) + "l10", 200);
        reads(filled("", LETTERS - 4) + "l10;", 1);
        fault("1".repeat(LETTERS), 0);
        fault("w" + "1".repeat(LETTERS - 1), 1);
        // The letter beyond them is refused, so this is the text without its end.
        fault(filled("", LETTERS - 3) + "l10;", 200);
        BesomYard yard = new BesomYard();
        Check.type(yard, filled(LONGEST, LETTERS));
        B.due("200 letters", yard.count(7), LETTERS);
        B.due("200 letters are read", yard.yard(), 16);
        B.due("and gone", yard.count(7), 0);
        B.due("the last order", yard.order(5, 2), 99);
    }

    private static void faultChangesNothing() {
        B.promise(4);
        String rich = Bounds.RICH_DEEDS + "clear\n";
        String[] faults = {"w1 1;o = -16", "x = -10", "w0 1; = -11", "w1 1;r3;r3; = -18", "w1 1;w2 2;l2;; = -23"};
        for (String row : faults) {
            String[] halves = row.split(" = ");
            B.run(Bounds.RICH_TEXT, rich + "text " + halves[0] + "\nyard = " + halves[1] + "\nyard = " + halves[1]);
        }
        // The text stays and may go on; what was read of it ahead of the fault is not told twice.
        B.run("w3 9;r5;l4;", """
                text w1 1;o
                yard = -16
                counts = 1 0 5 3 11 4 0 6
                text 1 1 1;
                yard = 2
                counts = 1 1 9 3 11 9 0 0
                """);
        B.runNew("""
                text r3;t1;p1;l1;w1 1;x
                yard = -27
                clear = 18
                yard = 0
                counts = 0 0 9 3 11 9 0 0
                """);
    }

    private static void readAnew() {
        B.promise(4);
        String anew = "clear\nyard = 0\n";
        B.run(Bounds.RICH_TEXT, Bounds.RICH_DEEDS + anew + """
                nows = 0 0 0 0 0 0 0 0
                counts = 0 0 9 3 11 9 0 0
                sides = 9 9 9 9 9 9 9 9
                part 0 0 = BAD
                order 0 0 = BAD
                undo = STATE
                back 0 = STATE
                back 1 = STATE
                which = 255
                forget = 0
                trace = 1011
                """);
        // As told, whatever was there: the same text again is the same yard again, but for THE TRACE.
        String again = "clear\ntext " + Bounds.RICH_TEXT + "\nyard = 10\n";
        B.same("the same text again", Bounds.RICH_TEXT, Bounds.RICH_DEEDS + again, "rate 3 1\n");
        // Of the text that was read nothing is left behind the next one's end.
        B.run("w1 12;", """
                text w1 1
                yard = -14
                """);
        B.run("w1 3;o9 1 1;t1;", """
                cuts 0 = 1
                binds 1 = 1
                sends 0 = 1
                text o9 1 1;
                yard = 1
                order 0 3 = 0
                now 5 = 0
                sends 0 = STATE
                """);
    }
}
