/** Promises 5 to 8 and 33 at their bounds: what may be asked of the yard. */
public final class YardBoundsTest {
    private static final Bounds B = new Bounds("yard bounds");
    private static final String SIX = "w1 0;w2 1;w3 2;w4 3;w5 4;w6 5;o1 1 0;o2 2 1;o3 3 2;o4 4 3;o5 5 4;o6 6 5;";

    public static void main(String[] args) {
        parts();
        givesByHand();
        givesAtEachAge();
        orders();
        sides();
        nows();
        counts();
        B.finish(5, 6, 7, 8, 33);
    }

    private static void parts() {
        B.promise(5);
        B.runEverywhere("""
                part -1 0 = BAD
                part 3 0 = BAD
                part 6 0 = BAD
                part 32 0 = BAD
                part MIN 0 = BAD
                part MAX 0 = BAD
                part 0 -1 = BAD
                part 0 3 = BAD
                part 0 MIN = BAD
                part 0 MAX = BAD
                part -1 -1 = BAD
                part 3 3 = BAD
                """);
        B.run(SIX, """
                part 0 0 = 1
                part 0 1 = 0
                part 0 2 = 0
                part 5 0 = 6
                part 5 1 = 5
                part 5 2 = 18
                part 6 0 = BAD
                part 6 2 = BAD
                part -1 2 = BAD
                """);
        B.run("w7 7;", """
                part 0 2 = 35
                part 1 0 = BAD
                part 1 1 = BAD
                part 1 2 = BAD
                """);
    }

    private static void givesByHand() {
        B.promise(5);
        // Nothing up to 2 years; one year more each year till it is RIPE; then one less; 0 at least.
        B.run("w9 0;w9 1;w9 2;w9 3;w9 8;w9 9;", """
                part 0 2 = 0
                part 1 2 = 0
                part 2 2 = 0
                part 3 2 = 9
                part 4 2 = 54
                part 5 2 = 63
                """);
        B.run("w9 10;w9 11;w9 15;w9 16;w9 17;w9 30;", """
                part 0 2 = 54
                part 1 2 = 45
                part 2 2 = 9
                part 3 2 = 0
                part 4 2 = 0
                part 5 2 = 0
                """);
        B.run("r3;w9 2;w9 3;w9 4;w9 5;w9 30;", """
                part 0 2 = 0
                part 1 2 = 9
                part 2 2 = 0
                part 3 2 = 0
                part 4 2 = 0
                """);
        B.run("r15;w9 14;w9 15;w9 16;w9 27;w9 28;w9 29;", """
                part 0 2 = 108
                part 1 2 = 117
                part 2 2 = 108
                part 3 2 = 9
                part 4 2 = 0
                part 5 2 = 0
                """);
    }

    /** Up a slope and down one: what is lower of the two, and 0 at least. */
    private static int gift(int size, int age, int ripe) {
        return Math.max(0, size * Math.min(age - 2, 2 * ripe - 2 - age));
    }

    private static void givesAtEachAge() {
        B.promise(5);
        for (int ripe = 3; ripe <= 15; ripe++) {
            for (int size = 1; size <= 9; size += 8) {
                BesomYard yard = Check.told("w" + size + " 0;r" + ripe + ";");
                for (int age = 0; age <= 40; age++) {
                    String what = "size " + size + ", ripe " + ripe + ", age " + age;
                    B.due(what, yard.part(0, 1), age);
                    B.due(what + " gives", yard.part(0, 2), gift(size, age, ripe));
                    yard.year();
                }
                for (int age = 0; age <= 30; age++) {
                    String text = "w" + size + " " + age + ";r" + ripe + ";";
                    B.due(text + " gives", Check.told(text).part(0, 2), gift(size, age, ripe));
                }
            }
        }
    }

    private static void orders() {
        B.promise(6);
        B.runEverywhere("""
                order -1 0 = BAD
                order 3 0 = BAD
                order 6 0 = BAD
                order 32 0 = BAD
                order MIN 0 = BAD
                order MAX 0 = BAD
                order 0 -1 = BAD
                order 0 4 = BAD
                order 0 MIN = BAD
                order 0 MAX = BAD
                order -1 -1 = BAD
                order 3 4 = BAD
                """);
        B.run(SIX, """
                order 0 0 = 1
                order 0 1 = 1
                order 0 2 = 0
                order 0 3 = 0
                order 5 0 = 6
                order 5 1 = 6
                order 5 2 = 5
                order 5 3 = 0
                order 6 0 = BAD
                order 6 3 = BAD
                order -1 3 = BAD
                order 5 4 = BAD
                """);
        // Whether the last of six was SENT, and no other.
        B.run("w9 9;o1 1 1;o1 1 1;o1 1 1;o1 1 1;o1 1 1;o1 1 7;t1;", """
                cuts 0 = 63
                binds 1 = 1
                order 5 3 = 0
                sends 5 = 7
                order 5 3 = 1
                order 4 3 = 0
                order 0 3 = 0
                order 6 3 = BAD
                undo = 2
                order 5 3 = 0
                """);
    }

    private static void sides() {
        B.promise(7);
        B.runEverywhere("""
                side -1 = BAD
                side 8 = BAD
                side 9 = BAD
                side MIN = BAD
                side MAX = BAD
                """);
        B.runNew("""
                side 0 = 9
                side 7 = 9
                sweeps = 7
                side 0 = 7
                side 7 = 8
                side 1 = 8
                side 6 = 9
                side 8 = BAD
                side -1 = BAD
                """);
    }

    private static void nows() {
        B.promise(8);
        B.runEverywhere("""
                now -1 = BAD
                now 8 = BAD
                now MIN = BAD
                now MAX = BAD
                """);
        B.run(Bounds.RICH_TEXT, Bounds.RICH_DEEDS + """
                nows = 2 12 31 4 7 1 3 10
                sides = 5 6 6 5 6 7 7 6
                """);
        // All six SENT are bits 0 to 5.
        B.run("w9 9;o1 1 99;o1 1 99;o1 1 99;o1 1 99;o1 1 99;o1 1 99;t1;", """
                cuts 0 = 63
                binds 6 = 1
                sends 5 = 99
                now 5 = 32
                sends 0 = 198
                now 5 = 33
                sends 1 = 297
                sends 2 = 396
                sends 3 = 495
                sends 4 = 594
                nows = 1 0 57 0 594 63 0 8
                """);
    }

    private static void counts() {
        B.promise(33);
        B.runEverywhere("""
                count -1 = BAD
                count 8 = BAD
                count MIN = BAD
                count MAX = BAD
                """);
        B.run(Bounds.RICH_TEXT, Bounds.RICH_DEEDS + "counts = 3 3 8 2 5 7 2 12\n");
        B.run(SIX + "r15;t20;p20;l15;", """
                counts = 6 6 15 20 20 15 0 0
                4x saw 0 0 0 = 4
                count 6 = 4
                saw 0 0 0 = 5
                count 6 = 5
                saw 0 0 0 = FULL
                count 6 = 5
                200x type 32 = 200
                count 7 = 200
                type 32 = FULL
                count 7 = 200
                """);
    }
}
