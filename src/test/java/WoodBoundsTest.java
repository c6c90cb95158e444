/** Promises 16 to 18 at their bounds: what a part will give, how often to cut, which part in which year. */
public final class WoodBoundsTest {
    private static final Bounds B = new Bounds("wood bounds");

    public static void main(String[] args) {
        inYears();
        inYearsAsTheyGoBy();
        turn();
        turnAtEachAge();
        planOfSoManyYears();
        planOfNone();
        planOfSeveral();
        planFromNow();
        B.finish(16, 17, 18);
    }

    private static void inYears() {
        B.promise(16);
        B.runEverywhere("""
                inYears -1 0 = BAD
                inYears 3 0 = BAD
                inYears 6 0 = BAD
                inYears MIN 0 = BAD
                inYears MAX 0 = BAD
                inYears 0 -1 = BAD
                inYears 0 31 = BAD
                inYears 0 MIN = BAD
                inYears 0 MAX = BAD
                inYears 3 31 = BAD
                """);
        B.run("w9 0;w9 9;w9 8;w9 30;w1 0;w9 2;", """
                inYears 0 0 = 0
                inYears 0 2 = 0
                inYears 0 3 = 9
                inYears 0 9 = 63
                inYears 0 10 = 54
                inYears 0 15 = 9
                inYears 0 16 = 0
                inYears 0 17 = 0
                inYears 0 30 = 0
                inYears 0 31 = BAD
                inYears 1 0 = 63
                inYears 1 1 = 54
                inYears 2 1 = 63
                inYears 3 0 = 0
                inYears 3 30 = 0
                inYears 5 1 = 9
                inYears 5 30 = 0
                inYears 6 0 = BAD
                """);
        B.run("w9 0;w9 15;w9 30;r15;", """
                inYears 0 15 = 117
                inYears 0 27 = 9
                inYears 0 28 = 0
                inYears 0 30 = 0
                inYears 1 12 = 9
                inYears 1 13 = 0
                inYears 1 30 = 0
                inYears 2 30 = 0
                """);
    }

    private static void inYearsAsTheyGoBy() {
        B.promise(16);
        for (int ripe : new int[] {3, 9, 15}) {
            for (int age = 0; age <= 30; age += 5) {
                String text = "w1 1;w9 " + age + ";r" + ripe + ";";
                BesomYard asked = Check.told(text);
                BesomYard waited = Check.told(text);
                for (int n = 0; n <= 30; n++) {
                    B.due(text + " in " + n, asked.inYears(1, n), waited.part(1, 2));
                    waited.year();
                }
                B.due(text + " in 31", asked.inYears(1, 31), -1);
            }
        }
        // From NOW on: behind a cut, and at the AGE that is the most.
        B.run("w9 9;", """
                cuts 0 = 63
                inYears 0 9 = 63
                9x year = 9
                inYears 0 0 = 63
                inYears 0 1 = 54
                31x year = 40
                part 0 1 = 40
                inYears 0 0 = 0
                inYears 0 30 = 0
                """);
    }

    private static void turn() {
        B.promise(17);
        B.runEverywhere("""
                turn 0 0 = BAD
                turn 31 0 = BAD
                turn -1 0 = BAD
                turn MIN 0 = BAD
                turn MAX 0 = BAD
                turn 0 1 = BAD
                turn 31 1 = BAD
                turn 0 2 = BAD
                turn 31 2 = BAD
                turn MAX 2 = BAD
                turn 1 -1 = BAD
                turn 1 3 = BAD
                turn 1 MIN = BAD
                turn 1 MAX = BAD
                turn 0 3 = BAD
                """);
        // None at all is 0 by 1; in least terms; the best of all y, whichever is named.
        B.runNew("""
                turn 1 0 = 0
                turn 1 1 = 1
                turn 2 0 = 0
                turn 2 1 = 1
                turn 3 0 = 1
                turn 3 1 = 3
                turn 4 0 = 1
                turn 4 1 = 2
                turn 9 0 = 7
                turn 9 1 = 9
                turn 10 0 = 3
                turn 10 1 = 5
                turn 15 0 = 1
                turn 15 1 = 15
                turn 16 0 = 0
                turn 16 1 = 1
                turn 30 0 = 0
                turn 30 1 = 1
                turn 1 2 = 9
                turn 9 2 = 9
                turn 30 2 = 9
                """);
    }

    private static void turnAtEachAge() {
        B.promise(17);
        for (int ripe = 3; ripe <= 15; ripe++) {
            BesomYard yard = Check.told("r" + ripe + ";");
            int bestUpper = 0;
            int best = 1;
            for (int y = 1; y <= 30; y++) {
                int gift = Math.max(0, Math.min(y - 2, 2 * ripe - 2 - y));
                int upper = yard.turn(y, 0);
                int lower = yard.turn(y, 1);
                B.due("ripe " + ripe + ", turn " + y, (long) upper * y, (long) gift * lower);
                B.due("ripe " + ripe + ", turn " + y + " in least terms", commonDivisors(upper, lower), 1);
                if (gift * best > bestUpper * y) {
                    best = y;
                    bestUpper = gift;
                }
            }
            B.due("ripe " + ripe + ", best", yard.turn(1, 2), best);
            B.due("ripe " + ripe + ", best of 30", yard.turn(30, 2), best);
        }
    }

    private static int commonDivisors(int a, int b) {
        int many = 0;
        for (int d = 1; d <= 30; d++) {
            many += a % d == 0 && b % d == 0 ? 1 : 0;
        }
        return many;
    }

    private static void planOfSoManyYears() {
        B.promise(18);
        B.runEverywhere("""
                plan 0 -1 = BAD
                plan 5 -1 = BAD
                plan -1 -1 = BAD
                plan MIN 0 = BAD
                plan MAX 0 = BAD
                plan 1 -2 = BAD
                plan 1 4 = BAD
                plan 4 -2 = BAD
                plan 4 4 = BAD
                plan 4 MIN = BAD
                plan 4 MAX = BAD
                plan 5 4 = BAD
                plan 0 0 = BAD
                plan 1 1 = NONE
                plan 1 2 = NONE
                plan 1 3 = NONE
                plan 2 2 = NONE
                plan 2 3 = NONE
                plan 3 3 = NONE
                """);
        B.run("w1 9;", """
                plan 1 -1 = 7
                plan 1 0 = 0
                plan 1 1 = NONE
                plan 2 -1 = 7
                plan 2 0 = 0
                plan 2 1 = -5
                plan 2 2 = NONE
                plan 3 -1 = 7
                plan 3 2 = -5
                plan 3 3 = NONE
                plan 4 -1 = 8
                plan 4 0 = 0
                plan 4 1 = -5
                plan 4 2 = -5
                plan 4 3 = 0
                plan 4 4 = BAD
                """);
        // The sixth part, and four of them in four years.
        B.run("w1 0;w1 0;w1 0;w1 0;w1 0;w9 9;", """
                plan 1 -1 = 63
                plan 1 0 = 5
                plan 4 -1 = 72
                plan 4 0 = 5
                plan 4 1 = -5
                plan 4 2 = -5
                plan 4 3 = 5
                """);
        B.run("w9 15;w9 15;w9 15;w9 15;w9 15;w9 15;r15;", """
                plan 4 -1 = 414
                plan 4 0 = 0
                plan 4 1 = 1
                plan 4 2 = 2
                plan 4 3 = 3
                """);
    }

    private static void planOfNone() {
        B.promise(18);
        B.runNew("""
                plan 1 -1 = 0
                plan 1 0 = -5
                plan 4 -1 = 0
                plan 4 0 = -5
                plan 4 3 = -5
                plan 3 3 = NONE
                """);
        // Which part, as the first thing that an object is ever asked: nothing was reckoned ahead of it.
        B.runNew("plan 1 0 = -5");
        B.runNew("plan 4 3 = -5");
        B.run("w9 0;", "plan 3 0 = -5");
        B.run("w9 30;w9 0;r3;", "plan 4 0 = -5");
        // Parts that give nothing in time: none is ahead of them.
        B.run("w9 0;w9 30;r3;", """
                plan 3 -1 = 0
                plan 3 0 = -5
                plan 3 1 = -5
                plan 3 2 = -5
                plan 4 -1 = 9
                plan 4 0 = -5
                plan 4 1 = -5
                plan 4 2 = -5
                plan 4 3 = 0
                """);
    }

    private static void planOfSeveral() {
        B.promise(18);
        B.run("w1 9;w1 9;", """
                plan 1 0 = 0
                plan 2 -1 = 13
                plan 2 0 = 0
                plan 2 1 = 1
                """);
        B.run("w1 30;w1 9;", """
                plan 2 -1 = 7
                plan 2 0 = 1
                plan 2 1 = -5
                """);
        // 6 at 8 years and at 10: as much as either, the lower part.
        B.run("w1 10;w1 8;w1 8;", """
                plan 1 -1 = 6
                plan 1 0 = 0
                """);
        // The higher part first, if that is more; the lower one grows on meanwhile.
        B.run("w1 8;w9 9;", """
                plan 2 -1 = 70
                plan 2 0 = 1
                plan 2 1 = 0
                """);
        // Part 1 in the last year is the same 9 in each row: waiting comes first.
        B.run("w1 30;w9 0;r3;", """
                plan 4 -1 = 9
                plan 4 0 = -5
                plan 4 1 = -5
                plan 4 2 = -5
                plan 4 3 = 1
                """);
        // Its own first year's cut pays again in the fourth.
        B.run("w2 3;r3;", """
                plan 4 -1 = 4
                plan 4 0 = 0
                plan 4 1 = -5
                plan 4 2 = -5
                plan 4 3 = 0
                """);
    }

    private static void planFromNow() {
        B.promise(18);
        B.run("w1 0;w3 30;", """
                plan 2 -1 = 0
                2x year = 2
                plan 2 -1 = 1
                plan 2 0 = -5
                plan 2 1 = 0
                7x year = 9
                plan 1 -1 = 7
                cuts 0 = 7
                plan 1 -1 = 0
                plan 1 0 = -5
                undo = 9
                plan 1 -1 = 7
                """);
        // At AGE 40 it stays 40: nothing comes of waiting.
        B.run("w9 30;", """
                10x year = 10
                part 0 1 = 40
                plan 3 -1 = 0
                plan 4 -1 = 9
                plan 4 0 = 0
                plan 4 3 = 0
                """);
    }
}
