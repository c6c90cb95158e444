/** Promises 30 to 32 and 34 at their bounds: parts by kinds, images, the trace. */
public final class ImageBoundsTest {
    private static final Bounds B = new Bounds("image bounds");

    public static void main(String[] args) {
        rateOfWhat();
        rateAtBounds();
        keep();
        back();
        backIsAsKept();
        imagesAreApart();
        trace();
        B.finish(30, 31, 32, 34);
    }

    private static void rateOfWhat() {
        B.promise(30);
        B.runEverywhere("""
                rate -1 0 = NO
                rate 6 0 = NO
                rate MIN 0 = NO
                rate MAX 0 = NO
                rate 0 -1 = NO
                rate 0 3 = NO
                rate 0 6 = NO
                rate 5 3 = NO
                rate 0 MIN = NO
                rate 0 MAX = NO
                rate 6 3 = NO
                rate -1 -1 = NO
                """);
        B.run("w1 0;w1 0;w1 0;w1 0;w1 0;w3 9;", """
                rate 0 5 = 21
                rate 1 5 = 24
                rate 2 5 = 12
                rate 3 5 = 48
                rate 4 5 = 17
                rate 5 5 = 21
                rate 6 5 = NO
                rate 5 6 = NO
                """);
    }

    private static void rateAtBounds() {
        B.promise(30);
        // Below 0, as far down as it may go; and -1, -2, -3, which are answers here.
        B.run("w9 1;w1 30;w9 2;r15;", """
                rate 2 0 = -1
                rate 2 2 = -2
                rate 4 0 = -1
                rate 4 2 = 0
                10x year = 10
                rate 2 1 = -40
                rate 4 1 = -39
                year = 11
                rate 2 1 = -40
                rate 5 1 = 11
                rate 3 0 = 198
                cuts 1 = 0
                rate 2 1 = 0
                rate 4 1 = 1
                rate 3 1 = 2
                """);
        B.run("w9 15;w1 3;r15;", """
                rate 0 0 = 117
                rate 1 0 = 126
                rate 3 0 = 252
                rate 2 1 = -2
                """);
    }

    private static void keep() {
        B.promise(31);
        B.runEverywhere("""
                keep -1 = BAD
                keep 2 = BAD
                keep MIN = BAD
                keep MAX = BAD
                """);
        B.run("w9 9;t1;p1;", """
                keep 0 = 0
                cuts 0 = 63
                binds 7 = 7
                keep 1 = 7
                now 7 = 2
                keep 2 = BAD
                back 1 = 7
                back 0 = 0
                """);
    }

    private static void back() {
        B.promise(32);
        B.runEverywhere("""
                back -1 = BAD
                back 2 = BAD
                back MIN = BAD
                back MAX = BAD
                back 0 = STATE
                """);
        B.runNew("""
                back 0 = STATE
                back 1 = STATE
                year = 1
                back 0 = STATE
                now 7 = 1
                keep 0 = 0
                back 1 = STATE
                back 0 = 0
                back 0 = 0
                keep 1 = 0
                back 1 = 0
                back 2 = BAD
                yard = 0
                back 0 = STATE
                back 1 = STATE
                """);
        // A text with a fault leaves the images.
        B.runNew("""
                year = 1
                keep 1 = 0
                type 120 = 1
                yard = -10
                year = 2
                back 1 = 0
                now 1 = 1
                """);
    }

    private static void backIsAsKept() {
        B.promise(32);
        String text = "w9 9;w5 4;o2 3 7;o9 2 5;t2;p5;l7;";
        String before = """
                cuts 0 = 63
                binds 9 = 2
                sends 0 = 7
                3x year = 3
                sweeps = 5
                spins 3 = 3
                """;
        String deeds = """
                cuts 1
                year
                binds 7
                sends 1
                sweeps
                spins 7
                """;
        for (String deed : deeds.split("\n")) {
            B.run(text, before + "keep 0 = 2\n" + deed + """

                    back 0 = 2
                    nows = 2 3 45 6 7 1 3 0
                    sides = 5 6 7 7 7 7 7 6
                    part 0 1 = 3
                    part 1 1 = 7
                    order 0 3 = 1
                    order 1 3 = 0
                    undo = STATE
                    """);
        }
        // Behind back() what is done may be UNDONE, and no more than that.
        B.run(text, before + "keep 0 = 2\n" + deeds + """
                back 0 = 2
                year = 4
                undo = 0
                undo = STATE
                now 1 = 3
                """);
        // Neither SEEN nor THE TRACE nor the text is in an image.
        B.run(text, before + """
                keep 0 = 2
                saw 0 0 5 = 1
                rate 0 0 = 9
                type 119 = 1
                back 0 = 2
                counts = 2 2 9 2 5 7 1 1
                trace = 1
                """);
    }

    private static void imagesAreApart() {
        B.promise(31);
        B.runNew("""
                year = 1
                keep 0 = 0
                year = 2
                keep 1 = 0
                year = 3
                back 0 = 0
                now 1 = 1
                sweeps = 7
                back 0 = 0
                sides = 9 9 9 9 9 9 9 9
                back 1 = 0
                now 1 = 2
                keep 0 = 0
                year = 3
                keep 1 = 0
                back 0 = 0
                now 1 = 2
                back 1 = 0
                now 1 = 3
                """);
        // Keeping changes nothing but the image: all that was done may still be UNDONE.
        B.runNew("""
                12x year = 12
                keep 0 = 0
                keep 0 = 0
                10x undo = 0
                now 1 = 2
                back 0 = 0
                now 1 = 12
                """);
    }

    private static void trace() {
        B.promise(34);
        B.run("w3 9;", """
                trace = 0
                rate 0 0
                trace = 1
                rate 1 0
                trace = 12
                rate 2 0
                trace = 113
                rate 3 0
                trace = 1124
                rate 4 0
                trace = 11225
                rate 5 0
                trace = 111226
                rate 6 0 = NO
                rate -1 0 = NO
                rate 5 1 = NO
                trace = 111226
                400x rate 5 0
                trace = 40111626
                """);
        // Nothing takes it back.
        B.run("w3 9;", """
                keep 0 = 0
                cuts 0 = 21
                rate 3 0 = 6
                undo = 0
                trace = 1011
                back 0 = 0
                trace = 1011
                clear = 0
                forget = 0
                yard = 0
                trace = 1011
                """);
    }
}
