/** Promises 9 to 15 at their bounds: what is done, and undone. */
public final class DeedBoundsTest {
    private static final Bounds B = new Bounds("deed bounds");

    public static void main(String[] args) {
        cuts();
        agesAtMost();
        yearAtMost();
        bindsSoMany();
        bindsWithTwigs();
        bindsByPace();
        dayAtMost();
        sendsWhat();
        sendsInTime();
        sendsWithEnough();
        sweepsInTheRing();
        sweepsDownToNothing();
        spins();
        undoneNone();
        undoneTen();
        undoneEachKind();
        undoneAtBounds();
        undoneOnly();
        B.finish(9, 10, 11, 12, 13, 14, 15);
    }

    private static void cuts() {
        B.promise(9);
        B.runEverywhere("""
                cuts -1 = BAD
                cuts 3 = BAD
                cuts 6 = BAD
                cuts 32 = BAD
                cuts MIN = BAD
                cuts MAX = BAD
                """);
        B.run("w1 0;w1 0;w1 0;w1 0;w1 0;w9 15;r15;", """
                cuts 6 = BAD
                cuts 5 = 117
                nows = 0 0 117 0 0 0 0 1
                part 5 1 = 0
                part 5 2 = 0
                part 4 1 = 0
                """);
        // One that GIVES nothing is cut all the same, and that may be UNDONE.
        B.run("w9 2;w9 16;", """
                cuts 0 = 0
                part 0 1 = 0
                now 7 = 1
                cuts 1 = 0
                part 1 1 = 0
                now 7 = 2
                cuts 1 = 0
                nows = 0 0 0 0 0 0 0 3
                3x undo = 0
                part 0 1 = 2
                part 1 1 = 16
                """);
    }

    private static void agesAtMost() {
        B.promise(10);
        B.run("w1 30;w1 29;w1 0;", """
                9x year = 9
                part 0 1 = 39
                year = 10
                part 0 1 = 40
                part 1 1 = 39
                part 2 1 = 10
                year = 11
                part 0 1 = 40
                part 1 1 = 40
                part 2 1 = 11
                year = 12
                part 0 1 = 40
                part 1 1 = 40
                rate 2 0 = -40
                28x year = 40
                part 2 1 = 40
                year = 41
                part 2 1 = 40
                cuts 0 = 0
                year = 42
                part 0 1 = 1
                """);
        B.run("w1 30;r15;", """
                11x year = 11
                part 0 2 = 0
                cuts 0 = 0
                part 0 1 = 0
                """);
    }

    private static void yearAtMost() {
        B.promise(10);
        B.runNew("""
                500x year = 500
                now 1 = 500
                year = 501
                """);
        // No object is used for so many calls; the bound is the document's all the same.
        B.runBeyond("""
                998x year = 998
                year = 999
                year = STATE
                now 1 = 999
                now 7 = 10
                undo = 9
                now 1 = 998
                year = 999
                year = STATE
                keep 0 = 0
                back 0 = 0
                year = STATE
                undo = STATE
                """);
    }

    private static void bindsSoMany() {
        B.promise(11);
        // BAD comes ahead of STATE: there are no twigs either, or too few of them.
        B.runEverywhere("""
                binds 0 = BAD
                binds -1 = BAD
                binds 100 = BAD
                binds MIN = BAD
                binds MAX = BAD
                binds 99 = STATE
                """);
        B.runNew("binds 1 = STATE");
        B.run("w9 13;w9 13;r13;t1;p20;", """
                cuts 0 = 99
                cuts 1 = 99
                binds 100 = BAD
                binds 0 = BAD
                binds 99 = 5
                nows = 5 0 99 99 0 0 0 3
                binds 1 = 6
                nows = 6 0 98 100 0 0 0 4
                """);
    }

    private static void bindsWithTwigs() {
        B.promise(11);
        B.run("w1 4;w1 3;t3;", """
                cuts 0 = 2
                binds 1 = STATE
                cuts 1 = 1
                binds 2 = STATE
                binds 1 = 1
                nows = 1 0 0 1 0 0 0 3
                binds 1 = STATE
                """);
        B.run("w7 15;w7 3;w1 3;r15;t1;p20;", """
                cuts 0 = 91
                cuts 1 = 7
                binds 99 = STATE
                cuts 2 = 1
                binds 99 = 5
                now 2 = 0
                """);
        B.run("w9 9;t20;p1;", """
                cuts 0 = 63
                binds 4 = STATE
                binds 3 = 3
                nows = 3 0 3 3 0 0 0 2
                binds 1 = STATE
                """);
        B.run("w3 9;", """
                cuts 0 = 21
                binds 8 = STATE
                binds 7 = 1
                now 2 = 0
                """);
    }

    private static void bindsByPace() {
        B.promise(11);
        B.run("w9 15;r15;t1;", """
                cuts 0 = 117
                binds 11 = 1
                binds 12 = 3
                binds 1 = 4
                binds 10 = 5
                binds 22 = 7
                binds 23 = 10
                """);
        B.run("w9 15;r15;t1;p20;", """
                cuts 0 = 117
                binds 20 = 1
                binds 21 = 3
                binds 19 = 4
                binds 40 = 6
                """);
        B.run("w9 15;r15;t1;p1;", """
                cuts 0 = 117
                binds 1 = 1
                binds 2 = 3
                binds 99 = 102
                """);
    }

    /** 10530 twigs, a besom of each, a day for each: what it takes to come to DAY 9999 in so few calls. */
    private static void dayAtMost() {
        B.promise(11);
        StringBuilder script = new StringBuilder();
        for (int round = 0; round < 15; round++) {
            script.append(round > 0 ? "15x year\n" : "");
            for (int p = 0; p < 6; p++) {
                script.append("cuts ").append(p).append(" = 117\n");
            }
        }
        B.run("w9 15;w9 15;w9 15;w9 15;w9 15;w9 15;r15;t1;p1;", script + """
                now 2 = 10530
                100x binds 99 = 9900
                binds 98 = 9998
                binds 2 = STATE
                binds 99 = STATE
                binds 100 = BAD
                binds 1 = 9999
                binds 1 = STATE
                binds 99 = STATE
                nows = 9999 210 531 9999 0 0 0 10
                allBy = 9999
                keep 0 = 9999
                undo = 9
                now 0 = 9998
                back 0 = 9999
                binds 1 = STATE
                """);
    }

    private static void sendsWhat() {
        B.promise(12);
        B.runEverywhere("""
                sends -1 = BAD
                sends 3 = BAD
                sends 6 = BAD
                sends 32 = BAD
                sends MIN = BAD
                sends MAX = BAD
                """);
        B.run(Bounds.RICH_TEXT, Bounds.RICH_DEEDS + """
                sends 0 = STATE
                sends 1 = STATE
                sends 2 = 9
                sends 2 = STATE
                """);
        // Once only, though there are enough and it is not late.
        B.run("w9 9;o60 2 5;t1;p20;", """
                cuts 0 = 63
                binds 10 = 1
                sends 0 = 5
                sends 0 = STATE
                nows = 1 0 53 8 5 1 0 3
                sends 1 = BAD
                undo = 2
                sends 0 = 5
                """);
        B.run("w9 9;o60 1 0;o60 1 1;o60 1 1;o60 1 1;o60 1 1;o60 1 99;t1;", """
                cuts 0 = 63
                binds 6 = 1
                sends 6 = BAD
                sends 0 = 0
                sends 5 = 99
                nows = 1 0 57 4 99 33 0 4
                """);
    }

    private static void sendsInTime() {
        B.promise(12);
        B.run("w9 9;o3 1 5;t1;p1;", """
                cuts 0 = 63
                binds 3 = 3
                sends 0 = 5
                undo = 2
                binds 1 = 4
                sends 0 = STATE
                nows = 4 0 59 4 0 0 0 3
                """);
        B.run("w9 9;o60 60 99;t1;p1;", """
                cuts 0 = 63
                binds 60 = 60
                sends 0 = 99
                undo = 2
                binds 1 = 61
                sends 0 = STATE
                """);
        B.run("w9 9;o1 1 99;t1;p20;", """
                cuts 0 = 63
                binds 20 = 1
                sends 0 = 99
                undo = 2
                binds 1 = 2
                sends 0 = STATE
                """);
    }

    private static void sendsWithEnough() {
        B.promise(12);
        B.run("w9 9;o9 1 1;o9 60 2;t1;p20;", """
                sends 0 = STATE
                cuts 0 = 63
                sends 0 = STATE
                binds 59 = 3
                sends 1 = STATE
                binds 1 = 4
                sends 1 = 2
                now 3 = 0
                sends 0 = STATE
                binds 1 = 5
                sends 0 = 3
                nows = 5 0 2 0 3 3 0 6
                """);
    }

    private static void sweepsInTheRing() {
        B.promise(13);
        B.runNew("""
                sweeps = 7
                sides = 7 8 9 9 9 9 9 8
                spins 7 = 7
                sweeps = 6
                sides = 6 8 9 9 9 9 8 6
                spins 7 = 6
                sweeps = 6
                sides = 6 8 9 9 9 8 6 5
                spins 3 = 1
                sweeps = 6
                sides = 5 6 8 9 9 8 6 5
                """);
    }

    private static void sweepsDownToNothing() {
        B.promise(13);
        // From 1 and from 2 to 0, and no further; it goes on when it is WORN OUT.
        B.run("l1;", """
                sweeps = 0
                sides = 0 0 1 1 1 1 1 0
                sweeps = 0
                sides = 0 0 1 1 1 1 1 0
                now 7 = 2
                spins 3 = 3
                sweeps = 0
                spins 3 = 6
                sweeps = 0
                sides = 0 0 0 0 0 0 0 0
                sweeps = 0
                sides = 0 0 0 0 0 0 0 0
                now 7 = 7
                """);
        B.run("l2;", """
                sweeps = 0
                sides = 0 1 2 2 2 2 2 1
                sweeps = 0
                sides = 0 0 2 2 2 2 2 0
                sweeps = 0
                sides = 0 0 2 2 2 2 2 0
                """);
        B.run("l3;", """
                sweeps = 1
                sides = 1 2 3 3 3 3 3 2
                sweeps = 0
                sides = 0 1 3 3 3 3 3 1
                spins 1 = 1
                sweeps = 0
                sides = 0 0 2 3 3 3 3 1
                """);
        B.run("l15;", """
                7x sweeps = 1
                sides = 1 8 15 15 15 15 15 8
                sweeps = 0
                sides = 0 7 15 15 15 15 15 7
                7x sweeps = 0
                sides = 0 0 15 15 15 15 15 0
                """);
    }

    private static void spins() {
        B.promise(14);
        B.runEverywhere("""
                spins 0 = BAD
                spins 8 = BAD
                spins -1 = BAD
                spins -7 = BAD
                spins 9 = BAD
                spins MIN = BAD
                spins MAX = BAD
                """);
        B.runNew("""
                spins 7 = 7
                spins 1 = 0
                spins 1 = 1
                spins 7 = 0
                spins 7 = 7
                spins 7 = 6
                nows = 0 0 0 0 0 0 6 6
                sides = 9 9 9 9 9 9 9 9
                """);
        for (int from = 1; from < 8; from++) {
            for (int s = 1; s < 8; s++) {
                BesomYard yard = new BesomYard();
                yard.spins(from);
                B.due("from " + from + " by " + s, yard.spins(s), (from + s) % 8);
                B.due("front from " + from + " by " + s, yard.now(6), (from + s) % 8);
            }
        }
    }

    private static void undoneNone() {
        B.promise(15);
        B.runNew("""
                undo = STATE
                sweeps = 7
                undo = 0
                undo = STATE
                sides = 9 9 9 9 9 9 9 9
                """);
        // Behind back() and behind a text there is nothing to be UNDONE, behind keep() there is.
        B.run("l5;", """
                undo = STATE
                sweeps = 3
                keep 0 = 0
                now 7 = 1
                sweeps = 1
                back 0 = 0
                undo = STATE
                now 7 = 0
                sweeps = 1
                yard = 0
                undo = STATE
                """);
    }

    private static void undoneTen() {
        B.promise(15);
        B.runNew("""
                9x year = 9
                now 7 = 9
                year = 10
                now 7 = 10
                10x undo = 0
                now 1 = 0
                undo = STATE
                """);
        B.runNew("""
                11x year = 11
                now 7 = 10
                undo = 9
                9x undo = 0
                now 1 = 1
                undo = STATE
                year = 2
                undo = 0
                undo = STATE
                now 1 = 1
                """);
        B.runNew("""
                35x year = 35
                3x undo = 7
                now 1 = 32
                2x sweeps = 5
                now 7 = 9
                spins 1 = 1
                now 7 = 10
                spins 1 = 2
                now 7 = 10
                2x undo = 8
                sides = 5 7 9 9 9 9 9 7
                2x undo = 6
                sides = 9 9 9 9 9 9 9 9
                now 1 = 32
                6x undo = 0
                now 1 = 26
                undo = STATE
                """);
    }

    private static void undoneEachKind() {
        B.promise(15);
        String text = "w9 9;w5 5;o9 2 7;o9 1 1;t3;p2;l4;";
        String before = "cuts 0\nbinds 3\nsweeps\nspins 2\nkeep 1\nyear\n";
        for (String deed : new String[] {"cuts 1", "year", "binds 5", "sends 0", "sweeps", "spins 7"}) {
            B.same(deed + " undone", text, before + deed + "\nundo\n", before);
        }
        B.run(text, before + """
                cuts 1 = 20
                undo = 5
                year = 2
                undo = 5
                binds 5 = 5
                undo = 5
                sends 0 = 7
                undo = 5
                sweeps = 2
                undo = 5
                spins 7 = 1
                undo = 5
                """);
    }

    private static void undoneAtBounds() {
        B.promise(15);
        // What stayed at its bound stays there when it is UNDONE.
        B.run("w9 30;w9 29;", """
                10x year = 10
                year = 11
                undo = 9
                part 0 1 = 40
                part 1 1 = 39
                undo = 8
                part 0 1 = 39
                """);
        B.run("l3;", """
                sweeps = 1
                sweeps = 0
                sweeps = 0
                sweeps = 0
                undo = 3
                sides = 0 0 3 3 3 3 3 0
                undo = 2
                sides = 0 1 3 3 3 3 3 1
                undo = 1
                sides = 1 2 3 3 3 3 3 2
                """);
        B.runNew("""
                spins 7 = 7
                spins 1 = 0
                undo = 1
                now 6 = 7
                undo = 0
                now 6 = 0
                """);
    }

    private static void undoneOnly() {
        B.promise(15);
        // Refused calls and all other calls are not among what is UNDONE.
        B.run("w9 9;o1 60 1;t20;", """
                cuts 0 = 63
                cuts 1 = BAD
                binds 4 = STATE
                binds 0 = BAD
                sends 0 = STATE
                sends 1 = BAD
                spins 0 = BAD
                spins 8 = BAD
                keep 0 = 0
                saw 0 0 9 = 1
                forget = 1
                saw 0 0 8 = 1
                rate 0 0 = 0
                type 119 = 1
                clear = 1
                type 120 = 1
                yard = -10
                now 7 = 1
                undo = 0
                counts = 1 1 9 20 11 9 1 1
                trace = 1
                part 0 1 = 9
                undo = STATE
                back 0 = 0
                now 2 = 63
                """);
    }
}
