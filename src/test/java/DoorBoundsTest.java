/** Promises 24 to 29 at their bounds: the besom by the door. */
public final class DoorBoundsTest {
    private static final Bounds B = new Bounds("door bounds");
    private static final int SIDES = 8;

    public static void main(String[] args) {
        lasts();
        lastsAsItIsSwept();
        latest();
        saw();
        sawFull();
        forget();
        which();
        whichAsItIsSwept();
        whichFromNow();
        odds();
        oddsByCounting();
        B.finish(24, 25, 26, 27, 28, 29);
    }

    private static void lasts() {
        B.promise(24);
        B.runEverywhere("""
                lasts -1 = BAD
                lasts 8 = BAD
                lasts MIN = BAD
                lasts MAX = BAD
                """);
        B.run("l1;", """
                lasts 0 = 1
                lasts 7 = 1
                sweeps = 0
                lasts 0 = 0
                lasts 7 = 0
                lasts 8 = BAD
                """);
        B.run("l2;", """
                lasts 0 = 1
                lasts 1 = 1
                lasts 7 = 1
                """);
        B.run("l3;", """
                lasts 0 = 2
                lasts 1 = 2
                lasts 4 = 3
                """);
        B.run("l15;", """
                lasts 0 = 8
                lasts 2 = 29
                """);
        // WORN OUT is some SIDE, not the one in front: 0 is all that is left.
        B.run("l2;", """
                sweeps = 0
                spins 4 = 4
                side 4 = 2
                lasts 0 = 0
                lasts 3 = 0
                sweeps = 0
                lasts 0 = 0
                """);
        // One of those beside is the first to go.
        B.run("l3;", """
                sweeps = 1
                sides = 1 2 3 3 3 3 3 2
                spins 1 = 1
                lasts 0 = 1
                sweeps = 0
                lasts 0 = 0
                """);
    }

    /** Sweeps and turns a yard until some side is 0: how often. */
    private static int sweptUntilWornOut(BesomYard yard, int s) {
        for (int swept = 0; swept < 60; swept++) {
            for (int side = 0; side < SIDES; side++) {
                if (yard.side(side) == 0) {
                    return swept;
                }
            }
            sweepAndTurn(yard, s);
        }
        return -1;
    }

    private static void sweepAndTurn(BesomYard yard, int s) {
        yard.sweeps();
        if (s > 0) {
            yard.spins(s);
        }
    }

    private static BesomYard used(int length, int sweepings, int by) {
        BesomYard yard = Check.told("l" + length + ";");
        for (int i = 0; i < sweepings; i++) {
            sweepAndTurn(yard, by);
        }
        return yard;
    }

    private static void lastsAsItIsSwept() {
        for (int length = 1; length <= 15; length++) {
            for (int sweepings = 0; sweepings <= 6; sweepings += 3) {
                BesomYard yard = used(length, sweepings, 5);
                String what = "l" + length + " swept " + sweepings;
                int longest = 0;
                int most = -1;
                for (int s = 0; s < SIDES; s++) {
                    int due = sweptUntilWornOut(used(length, sweepings, 5), s);
                    B.promise(24);
                    B.due(what + ", lasts " + s, yard.lasts(s), due);
                    longest = due > most ? s : longest;
                    most = Math.max(most, due);
                }
                B.promise(25);
                B.due(what + ", latest", yard.latest(), longest);
            }
        }
    }

    private static void latest() {
        B.promise(25);
        // Of several the lowest: all of them, or 1 of 1, 3, 5, 7.
        B.run("l1;", """
                latest = 0
                sweeps = 0
                latest = 0
                """);
        B.run("l2;", "latest = 0");
        B.runNew("""
                lasts 1 = 17
                lasts 3 = 17
                latest = 1
                spins 7 = 7
                latest = 1
                """);
        B.run("l15;", "latest = 2");
    }

    private static void saw() {
        B.promise(26);
        B.runEverywhere("""
                saw -1 0 0 = BAD
                saw 41 0 0 = BAD
                saw MIN 0 0 = BAD
                saw MAX 0 0 = BAD
                saw 0 -1 0 = BAD
                saw 0 8 0 = BAD
                saw 0 MIN 0 = BAD
                saw 0 MAX 0 = BAD
                saw 0 0 -1 = BAD
                saw 0 0 16 = BAD
                saw 0 0 MIN = BAD
                saw 0 0 MAX = BAD
                saw 41 8 16 = BAD
                """);
        B.runNew("""
                saw 0 0 0 = 1
                saw 40 7 15 = 2
                saw 40 0 0 = 3
                count 6 = 3
                now 7 = 0
                undo = STATE
                """);
    }

    private static void sawFull() {
        B.promise(26);
        B.runNew("""
                4x saw 0 0 9 = 4
                saw 0 7 9 = 5
                saw 0 0 9 = FULL
                saw 0 0 0 = FULL
                saw 40 7 15 = FULL
                saw 41 0 0 = BAD
                saw 0 8 0 = BAD
                saw 0 0 16 = BAD
                saw -1 -1 -1 = BAD
                which = 255
                count 6 = 5
                forget = 5
                saw 0 0 9 = 1
                """);
        // What was SEEN is neither UNDONE nor in an IMAGE; it is gone when a text is read.
        B.runNew("""
                5x saw 0 0 9 = 5
                sweeps = 7
                keep 0 = 0
                undo = 0
                saw 0 0 9 = FULL
                back 0 = 0
                saw 0 0 9 = FULL
                yard = 0
                count 6 = 0
                saw 0 0 9 = 1
                """);
        B.runNew("""
                keep 0 = 0
                saw 0 0 8 = 1
                back 0 = 0
                count 6 = 1
                which = 0
                """);
    }

    private static void forget() {
        B.promise(27);
        B.runNew("""
                forget = 0
                saw 0 0 0 = 1
                which = 0
                forget = 1
                which = 255
                forget = 0
                5x saw 0 0 0 = 5
                forget = 5
                count 6 = 0
                which = 255
                """);
        String unseen = Bounds.RICH_DEEDS.replaceAll("(?m)^saw.*$", "");
        B.same("forget leaves all else", Bounds.RICH_TEXT, Bounds.RICH_DEEDS + "forget", unseen);
    }

    private static void which() {
        B.promise(28);
        // Nothing SEEN is so by each s; what is NOW is so by each or none.
        B.runNew("""
                which = 255
                saw 0 0 9 = 1
                which = 255
                saw 1 0 7 = 2
                which = 255
                saw 0 7 8 = 3
                which = 0
                """);
        // The second sweeping is at 0, or beside it, or not.
        B.runNew("""
                saw 2 0 5 = 1
                which = 1
                forget = 1
                saw 2 0 6 = 1
                which = 130
                forget = 1
                saw 2 0 7 = 1
                which = 124
                saw 2 4 7 = 2
                which = 16
                saw 2 3 8 = 3
                which = 16
                saw 2 3 9 = 4
                which = 0
                """);
        // All five must be so, the fifth too.
        B.runNew("""
                4x saw 0 0 9 = 4
                which = 255
                saw 2 7 6 = 5
                which = 128
                """);
        B.runNew("""
                saw 0 0 15 = 1
                which = 0
                """);
        B.run("l15;", """
                saw 0 7 15 = 1
                which = 255
                saw 40 4 15 = 2
                which = 1
                """);
    }

    private static void whichAsItIsSwept() {
        B.promise(28);
        for (int s = 0; s < SIDES; s++) {
            for (int k : new int[] {0, 1, 2, 7, 39, 40}) {
                for (int side = 0; side < SIDES; side++) {
                    int due = 0;
                    int length = used(15, k, s).side(side);
                    for (int by = 0; by < SIDES; by++) {
                        due |= used(15, k, by).side(side) == length ? 1 << by : 0;
                    }
                    BesomYard yard = Check.told("l15;");
                    yard.saw(k, side, length);
                    B.due("behind " + k + " by " + s + " side " + side + " is " + length, yard.which(), due);
                }
            }
        }
    }

    private static void whichFromNow() {
        B.promise(28);
        B.run("l3;", """
                saw 1 0 1 = 1
                which = 255
                sweeps = 1
                which = 0
                forget = 1
                saw 0 0 1 = 1
                which = 255
                saw 1 0 0 = 2
                which = 255
                saw 40 0 0 = 3
                which = 255
                sweeps = 0
                which = 0
                undo = 1
                which = 255
                """);
        // From the SIDE that is in front NOW: 7, so that those beside are 6 and 0.
        B.runNew("""
                spins 7 = 7
                saw 1 7 7 = 1
                which = 255
                saw 1 0 8 = 2
                which = 255
                saw 1 6 8 = 3
                which = 255
                saw 2 0 6 = 4
                which = 2
                """);
    }

    private static void odds() {
        B.promise(29);
        B.runEverywhere("""
                odds -1 0 0 0 = BAD
                odds 11 0 0 0 = BAD
                odds MIN 0 0 0 = BAD
                odds MAX 0 0 0 = BAD
                odds 0 -1 0 0 = BAD
                odds 0 7 0 0 = BAD
                odds 0 MAX 0 0 = BAD
                odds 0 0 -1 0 = BAD
                odds 0 0 7 0 = BAD
                odds 0 0 MIN 0 = BAD
                odds 0 0 0 -1 = BAD
                odds 0 0 0 2 = BAD
                odds 0 0 0 MAX = BAD
                odds 11 7 7 2 = BAD
                """);
        B.runNew("""
                odds 0 0 0 0 = 1
                odds 0 0 0 1 = 1
                odds 10 0 0 0 = 1
                odds 10 0 0 1 = 1
                odds 0 0 6 0 = 0
                odds 0 0 6 1 = 1
                odds 5 5 6 0 = 0
                odds 5 5 6 1 = 1
                odds 0 6 6 0 = 1
                odds 0 6 6 1 = 1
                odds 10 6 0 0 = 1
                odds 10 6 0 1 = 1
                odds 10 6 1 0 = 0
                odds 10 6 1 1 = 1
                odds 9 6 6 0 = 1
                odds 9 6 6 1 = 1000000
                odds 1 6 1 0 = 999999
                odds 1 6 1 1 = 1000000
                odds 5 6 6 0 = 1
                odds 5 6 6 1 = 64
                """);
    }

    /** Of the 10 to the n ways that n besoms may go, those by which k at least hold, counted one by one. */
    private static int waysToHold(int x, int n, int k) {
        int all = (int) Math.pow(10, n);
        int ways = 0;
        for (int way = 0; way < all; way++) {
            int hold = 0;
            for (int i = 0, left = way; i < n; i++, left /= 10) {
                hold += left % 10 >= x ? 1 : 0;
            }
            ways += hold >= k ? 1 : 0;
        }
        return ways;
    }

    private static void oddsByCounting() {
        B.promise(29);
        BesomYard yard = new BesomYard();
        for (int n = 0; n <= 6; n += n < 4 ? 1 : 2) {
            int all = (int) Math.pow(10, n);
            for (int x = 0; x <= 10; x += n < 6 ? 1 : 5) {
                for (int k = 0; k <= 6; k++) {
                    String what = "odds " + x + " " + n + " " + k;
                    long upper = yard.odds(x, n, k, 0);
                    long lower = yard.odds(x, n, k, 1);
                    B.due(what, upper * all, (long) waysToHold(x, n, k) * lower);
                    // What divides the lower number is made of 2 and 5 alone.
                    boolean lowest = (upper % 2 != 0 || lower % 2 != 0) && (upper % 5 != 0 || lower % 5 != 0);
                    B.due(what + " in least terms", upper == 0 ? lower : lowest ? 1 : 0, 1);
                }
            }
        }
    }
}
