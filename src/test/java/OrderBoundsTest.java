/** Promises 19 to 23 at their bounds: which orders can be kept, what is due, what is lacking. */
public final class OrderBoundsTest {
    private static final Bounds B = new Bounds("order bounds");

    public static void main(String[] args) {
        keptWhat();
        keptByTime();
        keptOnTheDay();
        keptByTwigs();
        keptTogether();
        keptOfSeveral();
        next();
        nextOfSeveral();
        lack();
        cutFor();
        cutForOfSeveral();
        allBy();
        B.finish(19, 20, 21, 22, 23);
    }

    private static void keptWhat() {
        B.promise(19);
        B.runEverywhere("""
                kept -1 = BAD
                kept 2 = BAD
                kept MIN = BAD
                kept MAX = BAD
                """);
        B.runNew("""
                kept 0 = 0
                kept 1 = 0
                """);
        B.run("w9 9;o9 1 1;t1;", """
                kept 0 = 0
                kept 1 = 0
                cuts 0 = 63
                kept 0 = 1
                kept 1 = 1
                kept 2 = BAD
                kept -1 = BAD
                binds 1 = 1
                sends 0 = 1
                kept 0 = 0
                kept 1 = 0
                """);
        B.run("w9 9;o1 1 99;o1 1 99;o1 1 99;o1 1 99;o1 1 99;o1 1 99;t1;p6;", """
                cuts 0 = 63
                kept 0 = 63
                kept 1 = 594
                """);
        B.run("w9 9;o1 1 99;o1 1 99;o1 1 99;o1 1 99;o1 1 99;o1 1 99;t1;p5;", """
                cuts 0 = 63
                kept 0 = 31
                kept 1 = 495
                """);
    }

    private static void keptByTime() {
        B.promise(19);
        B.run("w9 9;o2 20 5;t1;p10;", """
                cuts 0 = 63
                kept 0 = 1
                kept 1 = 5
                """);
        B.run("w9 9;o2 21 5;t1;p10;", """
                cuts 0 = 63
                kept 0 = 0
                kept 1 = 0
                """);
        B.run("w9 9;o60 60 99;t1;p1;", """
                cuts 0 = 63
                kept 0 = 1
                binds 1 = 1
                kept 0 = 1
                year = 1
                kept 0 = 1
                """);
        // 59 days left for 59: the besom that is BOUND goes first, so that one more can be kept.
        B.run("w9 9;o59 60 99;o60 1 1;t1;p1;", """
                cuts 0 = 63
                kept 0 = 2
                binds 1 = 1
                kept 0 = 2
                """);
        // A day that is begun is over: 5 of it are lost.
        B.run("w9 9;o2 20 5;t1;p10;", """
                cuts 0 = 63
                binds 5 = 1
                kept 0 = 0
                undo = 1
                binds 10 = 1
                kept 0 = 1
                """);
    }

    private static void keptOnTheDay() {
        B.promise(19);
        // No days are left: none but those that are BOUND.
        B.run("w9 9;o1 10 5;t1;p10;", """
                cuts 0 = 63
                binds 9 = 1
                kept 0 = 0
                undo = 1
                binds 10 = 1
                kept 0 = 1
                sends 0 = 5
                undo = 2
                binds 1 = 2
                kept 0 = 0
                kept 1 = 0
                sends 0 = STATE
                """);
        // One that is late is in no set, and takes nothing from the others.
        B.run("w9 9;o1 8 50;o2 9 4;o3 10 3;t1;p10;", """
                cuts 0 = 63
                kept 0 = 7
                binds 9 = 1
                kept 0 = 7
                binds 1 = 2
                kept 0 = 6
                kept 1 = 7
                binds 1 = 3
                kept 0 = 4
                binds 1 = 4
                kept 0 = 0
                """);
    }

    private static void keptByTwigs() {
        B.promise(19);
        B.run("w3 9;o9 7 5;t3;p20;", """
                cuts 0 = 21
                kept 0 = 1
                """);
        B.run("w3 9;o9 8 5;t3;p20;", """
                cuts 0 = 21
                kept 0 = 0
                """);
        B.run("w2 9;w2 5;w1 3;o9 7 5;t3;p20;", """
                cuts 0 = 14
                cuts 1 = 6
                kept 0 = 0
                cuts 2 = 1
                kept 0 = 1
                """);
        // 3 are BOUND and 4 can be: 7, not 8; and twigs for two orders are not there twice.
        B.run("w3 9;o9 7 5;o9 8 6;t3;p20;", """
                cuts 0 = 21
                binds 3 = 1
                kept 0 = 1
                kept 1 = 5
                """);
        B.run("w3 9;o9 4 5;o9 4 6;t3;p20;", """
                cuts 0 = 21
                kept 0 = 2
                """);
        B.run("w3 9;o9 4 5;o8 3 6;t3;p20;", """
                cuts 0 = 21
                kept 0 = 3
                """);
        B.run("w9 9;o9 1 5;t20;p20;", """
                kept 0 = 0
                cuts 0 = 63
                kept 0 = 1
                """);
    }

    private static void keptTogether() {
        B.promise(19);
        // Due on the same day they need both; due earlier counts, due later does not.
        B.run("w9 9;o1 5 3;o1 5 4;t1;p10;", """
                cuts 0 = 63
                kept 0 = 3
                kept 1 = 7
                """);
        B.run("w9 9;o1 5 3;o1 5 4;t1;p9;", """
                cuts 0 = 63
                kept 0 = 2
                kept 1 = 4
                """);
        B.run("w9 9;o2 10 5;o1 10 5;t1;p10;", """
                cuts 0 = 63
                kept 0 = 3
                """);
        B.run("w9 9;o2 11 5;o1 10 5;t1;p10;", """
                cuts 0 = 63
                kept 0 = 1
                """);
        B.run("w9 9;o2 10 5;o1 11 5;t1;p10;", """
                cuts 0 = 63
                kept 0 = 1
                """);
        B.run("w9 9;o1 10 5;o2 10 5;o2 1 9;t1;p10;", """
                cuts 0 = 63
                kept 0 = 5
                kept 1 = 14
                """);
    }

    private static void keptOfSeveral() {
        B.promise(19);
        B.run("w9 9;o1 5 7;o1 5 7;o1 5 7;t1;p5;", """
                cuts 0 = 63
                kept 0 = 1
                kept 1 = 7
                """);
        B.run("w9 9;o1 5 7;o1 5 3;o1 10 10;t1;p10;", """
                cuts 0 = 63
                kept 0 = 3
                kept 1 = 10
                """);
        B.run("w9 9;o1 10 10;o1 5 7;o1 5 3;t1;p10;", """
                cuts 0 = 63
                kept 0 = 1
                """);
        // One for nothing brings no more: least bits are without it.
        B.run("w9 9;o9 1 0;t1;", """
                cuts 0 = 63
                kept 0 = 0
                kept 1 = 0
                """);
        B.run("w9 9;o9 1 0;o9 1 5;o9 1 0;t1;", """
                cuts 0 = 63
                kept 0 = 2
                kept 1 = 5
                """);
    }

    private static void next() {
        B.promise(20);
        B.runEverywhere("""
                next -1 = BAD
                next 2 = BAD
                next MIN = BAD
                next MAX = BAD
                """);
        B.runNew("""
                next 0 = NONE
                next 1 = NONE
                """);
        B.run("w9 9;o60 1 1;t1;", """
                next 0 = 0
                next 1 = 0
                cuts 0 = 63
                binds 1 = 1
                sends 0 = 1
                next 0 = NONE
                next 1 = NONE
                next 2 = BAD
                undo = 2
                next 0 = 0
                next 1 = 0
                """);
        B.run("o60 60 1;o59 60 1;o58 60 1;o57 60 1;o56 60 1;o1 1 99;", """
                next 0 = 5
                next 1 = 5
                """);
        // Late ones are not SENT either.
        B.run("w9 9;o1 9 9;o3 1 1;t1;p1;", """
                cuts 0 = 63
                binds 2 = 2
                next 0 = 0
                next 1 = 0
                sends 1 = 1
                next 0 = 0
                """);
    }

    private static void nextOfSeveral() {
        B.promise(20);
        B.run("o5 3 6;o5 2 4;o5 1 2;o5 60 99;", """
                next 0 = 0
                next 1 = 0
                """);
        B.run("o6 3 5;o5 2 4;o5 1 2;o5 5 10;", """
                next 0 = 1
                next 1 = 1
                """);
        // As fractions, not as whole coins: 98 by 60, 87 by 53, 18 by 11; and with none at all.
        B.run("o9 60 98;o9 53 87;o8 11 18;", """
                next 0 = 2
                next 1 = 1
                """);
        B.run("o9 60 0;o9 1 0;", "next 1 = 0");
        B.run("o9 1 0;o9 60 1;", "next 1 = 1");
        B.run("o9 60 99;o9 1 1;o9 1 2;", "next 1 = 2");
    }

    private static void lack() {
        B.promise(21);
        B.runNew("lack = 0");
        B.run("w9 9;w1 3;o9 8 1;t8;", """
                lack = 64
                cuts 0 = 63
                lack = 1
                cuts 1 = 1
                lack = 0
                binds 8 = 1
                lack = 0
                """);
        // 0 at least, with more twigs and with more besoms than are asked for.
        B.run("w9 9;o9 2 1;t3;", """
                cuts 0 = 63
                lack = 0
                binds 5 = 1
                lack = 0
                sends 0 = 1
                lack = 0
                """);
        // BOUND first, and then what is SENT is not asked for any more.
        B.run("w9 9;o9 3 1;o60 10 1;t20;", """
                lack = 260
                cuts 0 = 63
                lack = 197
                binds 3 = 1
                lack = 197
                sends 0 = 1
                lack = 197
                undo = 2
                undo = 1
                lack = 197
                """);
        B.run("o1 60 1;o1 60 1;o1 60 1;o1 60 1;o1 60 1;o1 60 1;t20;", "lack = 7200");
    }

    private static void cutFor() {
        B.promise(22);
        B.runNew("cutFor = 0");
        B.run("o1 1 1;", "cutFor = NONE");
        B.run("w9 9;", "cutFor = 0");
        B.run("w9 9;o9 7 1;t9;", "cutFor = 1");
        B.run("w9 9;o9 8 1;t8;", "cutFor = NONE");
        B.run("w9 9;w1 3;o9 8 1;t8;", """
                cutFor = 3
                cuts 1 = 1
                cutFor = 1
                cuts 0 = 63
                cutFor = 0
                binds 8 = 1
                cutFor = 0
                sends 0 = 1
                cutFor = 0
                """);
        B.run("w9 9;w1 3;o9 13 1;t5;", """
                lack = 65
                cutFor = NONE
                cuts 0 = 63
                cuts 1 = 1
                lack = 1
                cutFor = NONE
                """);
        B.run("w1 9;w1 9;w1 9;w1 9;w1 9;w1 9;o9 6 1;t7;", "cutFor = 63");
        B.run("w1 9;w1 9;w1 9;w1 9;w1 9;w1 8;o9 6 1;t7;", "cutFor = NONE");
        B.run("w1 0;w1 0;w1 0;w1 0;w1 0;w1 9;o9 1 1;t7;", "cutFor = 32");
    }

    private static void cutForOfSeveral() {
        B.promise(22);
        // Fewest come ahead of least bits, and of as few the least bits.
        B.run("w1 9;w1 9;w1 9;w2 9;o9 1 1;t14;", "cutFor = 8");
        B.run("w1 9;w1 9;w1 9;w2 9;o9 3 1;t7;", "cutFor = 9");
        B.run("w1 9;w2 9;w3 9;w3 9;o9 1 1;t20;", "cutFor = 4");
        B.run("w3 9;w3 9;w3 9;o9 1 1;t20;", "cutFor = 1");
        B.run("w3 9;w3 9;w3 9;o9 2 1;t20;", "cutFor = 3");
    }

    private static void allBy() {
        B.promise(23);
        B.runNew("allBy = 0");
        B.run("w9 9;o1 20 1;t1;p10;", """
                allBy = 2
                cuts 0 = 63
                binds 1 = 1
                allBy = 3
                binds 9 = 2
                allBy = 3
                binds 9 = 3
                allBy = 4
                binds 1 = 4
                allBy = 4
                binds 1 = 5
                allBy = 5
                """);
        B.run("o1 21 1;p10;", "allBy = 3");
        B.run("o1 1 1;p20;", "allBy = 1");
        B.run("o1 60 1;o1 60 1;o1 60 1;o1 60 1;o1 60 1;o1 60 1;p1;", "allBy = 360");
        B.run("o1 60 1;o1 60 1;o1 60 1;o1 60 1;o1 60 1;o1 60 1;p20;", "allBy = 18");
        // What is SENT is not asked for: THE DAY, when nothing is left.
        B.run("w9 9;o9 5 1;o9 5 1;t1;p5;", """
                allBy = 2
                cuts 0 = 63
                binds 5 = 1
                allBy = 2
                sends 0 = 1
                allBy = 2
                binds 5 = 2
                sends 1 = 2
                allBy = 2
                year = 1
                allBy = 2
                """);
    }
}
