/** For each promise of the document: ordinary inputs, the edges that it names, wrong inputs. */
public final class PromisesTest {
    private static final int BAD = -1, STATE = -2, FULL = -3, NONE = -9, NO = -1000000;
    private static final int MIN = Integer.MIN_VALUE, MAX = Integer.MAX_VALUE;
    private static final Check CHECK = new Check("promises");

    private static void due(String call, long got, long want) {
        CHECK.due(call, got, want);
    }

    private static void dueAll(String call, long[] got, long... want) {
        due(call + " has as many", got.length, want.length);
        for (int i = 0; i < got.length && i < want.length; i++) {
            due(call + " [" + i + "]", got[i], want[i]);
        }
    }

    private static long[] nows(BesomYard y) {
        long[] all = new long[8];
        for (int i = 0; i < 8; i++) {
            all[i] = y.now(i);
        }
        return all;
    }

    private static long[] counts(BesomYard y) {
        long[] all = new long[8];
        for (int i = 0; i < 8; i++) {
            all[i] = y.count(i);
        }
        return all;
    }

    private static long[] sides(BesomYard y) {
        long[] all = new long[8];
        for (int i = 0; i < 8; i++) {
            all[i] = y.side(i);
        }
        return all;
    }

    public static void main(String[] args) {
        newObject();
        typeAndClear();
        yardReads();
        yardFaults();
        yardTellsAllAnew();
        partOrderSideNow();
        gives();
        cutsAndYear();
        binds();
        dayAtMost();
        sends();
        sweepsAndSpins();
        undo();
        inYears();
        turn();
        plan();
        planSeveral();
        kept();
        keptInTime();
        next();
        lackAndAllBy();
        cutFor();
        lastsAndLatest();
        sawForgetWhich();
        odds();
        rateAndTrace();
        images();
        count();
        CHECK.finish();
    }

    // Promise 1
    private static void newObject() {
        BesomYard y = new BesomYard();
        dueAll("new: now", nows(y), 0, 0, 0, 0, 0, 0, 0, 0);
        dueAll("new: count", counts(y), 0, 0, 9, 3, 11, 9, 0, 0);
        dueAll("new: side", sides(y), 9, 9, 9, 9, 9, 9, 9, 9);
        due("new: trace", y.trace(), 0);
        due("new: undo", y.undo(), STATE);
        due("new: part", y.part(0, 0), BAD);
        due("new: order", y.order(0, 0), BAD);
        due("new: cuts", y.cuts(0), BAD);
        due("new: sends", y.sends(0), BAD);
        due("new: back 0", y.back(0), STATE);
        due("new: back 1", y.back(1), STATE);
    }

    // Promises 2, 3
    private static void typeAndClear() {
        BesomYard y = new BesomYard();
        due("type 0", y.type(0), 1);
        due("type 255", y.type(255), 2);
        due("type 256", y.type(256), BAD);
        due("type -1", y.type(-1), BAD);
        due("type MIN", y.type(MIN), BAD);
        due("type MAX", y.type(MAX), BAD);
        due("type keeps count", y.count(7), 2);
        due("clear", y.clear(), 2);
        due("clear again", y.clear(), 0);
        due("clear empties", y.count(7), 0);
        for (int i = 1; i <= 200; i++) {
            due("type " + i, y.type(' '), i);
        }
        due("type 201st", y.type('w'), FULL);
        due("type 201st, wrong", y.type(256), BAD);
        due("full text", y.count(7), 200);
        due("yard of 200 blanks", y.yard(), 0);
        due("yard empties", y.count(7), 0);
    }

    // Promise 4
    private static void yardReads() {
        due("empty", Check.read(""), 0);
        due("blanks", Check.read("   "), 0);
        due("one", Check.read("w1 0;"), 1);
        due("blanks all over", Check.read("  w  1   0  ;  "), 1);
        due("no blanks", Check.read("w9 30;o60 60 99;r15;t20;p20;l15;"), 6);
        due("lowest", Check.read("w1 0;o1 1 0;r3;t1;p1;l1;"), 6);
        due("six of each", Check.read("w1 1;w1 1;w1 1;w1 1;w1 1;w1 1;o1 1 1;o1 1 1;o1 1 1;o1 1 1;o1 1 1;o1 1 1;"), 12);
        BesomYard y = Check.told("o7 8 9;w2 3;r4;o60 60 99;l5;w9 30;p6;t7;");
        dueAll("mixed: count", counts(y), 2, 2, 4, 7, 6, 5, 0, 0);
        due("mixed: size 0", y.part(0, 0), 2);
        due("mixed: age 0", y.part(0, 1), 3);
        due("mixed: size 1", y.part(1, 0), 9);
        due("mixed: age 1", y.part(1, 1), 30);
        due("mixed: day 0", y.order(0, 0), 7);
        due("mixed: besoms 0", y.order(0, 1), 8);
        due("mixed: coins 0", y.order(0, 2), 9);
        due("mixed: coins 1", y.order(1, 2), 99);
        dueAll("mixed: side", sides(y), 5, 5, 5, 5, 5, 5, 5, 5);
    }

    private static void fault(String text, int place) {
        due("fault of '" + text + "'", Check.read(text), -10 - place);
    }

    private static void yardFaults() {
        fault("w", 1);
        fault("w1", 2);
        fault("w1 1", 4);
        fault("w1 1  ", 6);
        fault("  w", 3);
        fault("r", 1);
        fault("r9", 2);
        fault("o1 1", 4);
        fault("o1 1 1", 6);
        fault("w1;", 2);
        fault("w1 1 1;", 5);
        fault("w;", 1);
        fault("ww", 1);
        fault("w1 w", 3);
        fault("o1 1;", 4);
        fault("o1 1 1 1;", 7);
        fault("r9 9;", 3);
        fault(";", 0);
        fault(" ;", 1);
        fault("5;", 0);
        fault("w1 1;;", 5);
        fault("x", 0);
        fault("w1 1;x", 5);
        fault("w1,1;", 2);
        fault("W1 1;", 0);
        fault("w\t1 1;", 1);
        fault("w1 1;" + (char) 0, 5);
        fault("w1 1;" + (char) 255, 5);
        fault("w1 1;-", 5);
        // The first token that can't stand counts, not the worst one.
        fault("w1;x", 2);
        fault("w0 x", 1);
        // Numbers.
        fault("w0 1;", 1);
        fault("w10 1;", 1);
        fault("w1 31;", 3);
        fault("w1 00;", 3);
        fault("w01 1;", 1);
        fault("w1 07;", 3);
        fault("w100 1;", 1);
        fault("o0 1 1;", 1);
        fault("o61 1 1;", 1);
        fault("o1 0 1;", 3);
        fault("o1 61 1;", 3);
        fault("o1 1 100;", 5);
        fault("o1 1 00;", 5);
        fault("r2;", 1);
        fault("r16;", 1);
        fault("t0;", 1);
        fault("t21;", 1);
        fault("p0;", 1);
        fault("p21;", 1);
        fault("l0;", 1);
        fault("l16;", 1);
        fault("w1 4294967297;", 3);
        fault("w1 99999999999999999999999999999999999999999999;", 3);
        fault("w1 18446744073709551617;", 3);
        // Too many.
        fault("w1 1;w1 1;w1 1;w1 1;w1 1;w1 1;w1 1;", 30);
        fault("o1 1 1;o1 1 1;o1 1 1;o1 1 1;o1 1 1;o1 1 1; o", 43);
        fault("r9;r9;", 3);
        fault("t9;w1 1;t9;", 8);
        fault("p9; p9;", 4);
        fault("l9;l", 3);
        BesomYard y = Check.told("w3 9;o5 2 7;l4;");
        y.cuts(0);
        y.sweeps();
        y.saw(0, 0, 2);
        y.keep(0);
        Check.type(y, "w1 1;o");
        due("fault late", y.yard(), -16);
        due("a fault leaves the text", y.count(7), 6);
        due("a fault leaves the parts", y.part(0, 0), 3);
        due("a fault leaves the stack", y.now(2), 21);
        due("a fault leaves SEEN", y.count(6), 1);
        due("a fault leaves the orders", y.count(1), 1);
        due("a fault leaves the length", y.count(5), 4);
        due("a fault leaves what is undone", y.now(7), 2);
        due("a fault leaves the side", y.side(0), 2);
        due("a fault leaves the image", y.back(0), 0);
        Check.type(y, "1 1 1;");
        due("the text goes on", y.yard(), 2);
        due("what was told behind it", y.part(0, 0), 1);
        due("a fault's items are not told twice", y.count(0), 1);
        due("a fault's items are not told twice, orders", y.count(1), 1);
    }

    private static void yardTellsAllAnew() {
        BesomYard y = Check.told("w9 5;o5 2 7;r5;t4;p2;l4;");
        y.cuts(0);
        y.year();
        y.binds(3);
        y.sends(0);
        y.sweeps();
        y.spins(3);
        y.saw(0, 0, 4);
        dueAll("before: now", nows(y), 2, 1, 15, 1, 7, 1, 3, 6);
        y.keep(0);
        y.keep(1);
        y.rate(3, 0);
        due("empty text", y.yard(), 0);
        dueAll("anew: now", nows(y), 0, 0, 0, 0, 0, 0, 0, 0);
        dueAll("anew: count", counts(y), 0, 0, 9, 3, 11, 9, 0, 0);
        dueAll("anew: side", sides(y), 9, 9, 9, 9, 9, 9, 9, 9);
        due("anew: back 0", y.back(0), STATE);
        due("anew: back 1", y.back(1), STATE);
        due("anew: undo", y.undo(), STATE);
        due("anew: which", y.which(), 255);
        due("anew: trace stays", y.trace(), 1011);
        BesomYard z = Check.told("w1 9;o9 1 1;t1;");
        z.cuts(0);
        z.binds(1);
        z.sends(0);
        Check.type(z, "o9 1 1;");
        z.yard();
        due("anew: not sent", z.order(0, 3), 0);
        due("anew: sent bits", z.now(5), 0);
        Check.type(z, "r5;w2 2;w3 3;");
        due("a third text", z.yard(), 3);
        dueAll("a third text: count", counts(z), 2, 0, 5, 3, 11, 9, 0, 0);
        Check.type(z, "w4 4;");
        due("a fourth text", z.yard(), 1);
        dueAll("a fourth text: count", counts(z), 1, 0, 9, 3, 11, 9, 0, 0);
        due("a fourth text: size", z.part(0, 0), 4);
    }

    // Promises 5 to 8
    private static void partOrderSideNow() {
        BesomYard y = Check.told("w3 9;w5 4;o3 20 10;o5 30 25;");
        due("part 1 size", y.part(1, 0), 5);
        due("part 1 age", y.part(1, 1), 4);
        due("part 1 gives", y.part(1, 2), 10);
        for (int wrong : new int[] {-1, 2, MIN, MAX}) {
            due("part " + wrong, y.part(wrong, 0), BAD);
            due("order " + wrong, y.order(wrong, 0), BAD);
        }
        for (int wrong : new int[] {-1, MIN, MAX}) {
            due("part what " + wrong, y.part(0, wrong), BAD);
            due("order what " + wrong, y.order(0, wrong), BAD);
            due("side " + wrong, y.side(wrong), BAD);
            due("now " + wrong, y.now(wrong), BAD);
            due("count " + wrong, y.count(wrong), BAD);
        }
        due("part what 3", y.part(0, 3), BAD);
        due("order what 4", y.order(0, 4), BAD);
        due("side 8", y.side(8), BAD);
        due("now 8", y.now(8), BAD);
        due("order 1 day", y.order(1, 0), 5);
        due("order 1 besoms", y.order(1, 1), 30);
        due("order 1 coins", y.order(1, 2), 25);
        due("order 1 sent", y.order(1, 3), 0);
        due("side 7", y.side(7), 9);
    }

    private static void gives() {
        int[] ages = {0, 1, 2, 3, 9, 10, 15, 16, 17, 30};
        int[] due = {0, 0, 0, 4, 28, 24, 4, 0, 0, 0};
        for (int i = 0; i < ages.length; i++) {
            BesomYard y = Check.told("w4 " + ages[i] + ";");
            due("gives at " + ages[i], y.part(0, 2), due[i]);
        }
        due("ripe at 3, 3", Check.told("w9 3;r3;").part(0, 2), 9);
        due("ripe at 3, 4", Check.told("w9 4;r3;").part(0, 2), 0);
        due("ripe at 15, 15", Check.told("w9 15;r15;").part(0, 2), 117);
        due("ripe at 15, 27", Check.told("w9 27;r15;").part(0, 2), 9);
        due("ripe at 15, 28", Check.told("w9 28;r15;").part(0, 2), 0);
    }

    // Promises 9, 10
    private static void cutsAndYear() {
        BesomYard y = Check.told("w3 9;w1 30;w2 2;");
        due("cuts", y.cuts(0), 21);
        due("cut: stack", y.now(2), 21);
        due("cut: age", y.part(0, 1), 0);
        due("cut again", y.cuts(0), 0);
        due("cut: stack stays", y.now(2), 21);
        due("cuts beyond", y.cuts(3), BAD);
        due("cuts below", y.cuts(-1), BAD);
        due("cuts MAX", y.cuts(MAX), BAD);
        due("refused cuts are not undone", y.now(7), 2);
        for (int i = 1; i <= 9; i++) {
            due("year", y.year(), i);
        }
        due("grown", y.part(0, 1), 9);
        due("39 at least", y.part(1, 1), 39);
        y.year();
        due("40", y.part(1, 1), 40);
        y.year();
        due("40 at most", y.part(1, 1), 40);
        due("the others go on", y.part(2, 1), 13);
        due("THE YEAR", y.now(1), 11);
        due("cut of 13 years", y.cuts(2), 6);
        due("stack adds", y.now(2), 27);
        BesomYard long999 = new BesomYard();
        for (int i = 1; i <= 999; i++) {
            due("year", long999.year(), i);
        }
        due("YEAR 999", long999.year(), STATE);
        due("YEAR stays", long999.now(1), 999);
    }

    // Promise 11
    private static void binds() {
        BesomYard y = Check.told("w9 9;t2;p5;");
        due("binds without twigs", y.binds(1), STATE);
        due("binds 0", y.binds(0), BAD);
        due("binds 100", y.binds(100), BAD);
        due("binds MIN", y.binds(MIN), BAD);
        due("binds MAX", y.binds(MAX), BAD);
        due("binds 99", y.binds(99), STATE);
        due("nothing undone", y.now(7), 0);
        y.cuts(0);
        due("binds 5", y.binds(5), 1);
        due("binds 6", y.binds(6), 3);
        due("binds 1", y.binds(1), 4);
        dueAll("bound: now", nows(y), 4, 0, 39, 12, 0, 0, 0, 4);
        due("binds 20", y.binds(20), STATE);
        due("binds 19", y.binds(19), 8);
        dueAll("bound: now, nearly all", nows(y), 8, 0, 1, 31, 0, 0, 0, 5);
        BesomYard z = Check.told("w9 13;w9 13;t1;p20;r13;");
        z.cuts(0);
        due("just 99", z.binds(99), 5);
        due("none left", z.now(2), 0);
    }

    private static void dayAtMost() {
        BesomYard y = Check.told("w9 15;w9 15;w9 15;w9 15;w9 15;w9 15;r15;t1;p1;");
        // 702 twigs each time; 14 times 702 and then 171 more days make 9999.
        for (int round = 0; round < 14; round++) {
            cutAll(y);
            bindAll(y, 702);
            for (int i = 0; i < 15; i++) {
                y.year();
            }
        }
        due("DAY", y.now(0), 9828);
        cutAll(y);
        due("a day short", y.binds(99), 9927);
        due("beyond 9999", y.binds(73), STATE);
        due("DAY stays", y.now(0), 9927);
        due("stack stays", y.now(2), 603);
        due("9999", y.binds(72), 9999);
        due("beyond 9999 again", y.binds(1), STATE);
    }

    private static void cutAll(BesomYard y) {
        for (int p = 0; p < 6; p++) {
            y.cuts(p);
        }
    }

    private static void bindAll(BesomYard y, int besoms) {
        for (int left = besoms; left > 0; left -= 99) {
            y.binds(Math.min(99, left));
        }
    }

    // Promise 12
    private static void sends() {
        BesomYard y = Check.told("w9 9;o1 4 10;o2 6 0;o1 1 30;o9 60 99;t1;p10;");
        due("none bound", y.sends(0), STATE);
        due("no such", y.sends(4), BAD);
        due("below", y.sends(-1), BAD);
        due("MAX", y.sends(MAX), BAD);
        due("nothing undone", y.now(7), 0);
        y.cuts(0);
        y.binds(10);
        due("sends on its day", y.sends(0), 10);
        due("sent once", y.sends(0), STATE);
        due("sent", y.order(0, 3), 1);
        due("others are not", y.order(1, 3), 0);
        dueAll("sent: now", nows(y), 1, 0, 53, 6, 10, 1, 0, 3);
        due("too few", y.sends(3), STATE);
        due("all that there are", y.sends(1), 10);
        due("bits", y.now(5), 3);
        due("none left", y.now(3), 0);
        y.binds(1);
        due("a day too late", y.sends(2), STATE);
        due("earned", y.now(4), 10);
        due("refused is not undone", y.now(7), 5);
    }

    // Promises 13, 14
    private static void sweepsAndSpins() {
        BesomYard y = new BesomYard();
        due("sweeps", y.sweeps(), 7);
        dueAll("swept", sides(y), 7, 8, 9, 9, 9, 9, 9, 8);
        due("spins 7", y.spins(7), 7);
        due("front", y.now(6), 7);
        due("sweeps the last", y.sweeps(), 6);
        dueAll("swept at 7", sides(y), 6, 8, 9, 9, 9, 9, 8, 6);
        due("spins 1", y.spins(1), 0);
        due("spins 0", y.spins(0), BAD);
        due("spins 8", y.spins(8), BAD);
        due("spins -1", y.spins(-1), BAD);
        due("spins MAX", y.spins(MAX), BAD);
        due("spins MIN", y.spins(MIN), BAD);
        due("front stays", y.now(6), 0);
        for (int want : new int[] {4, 2, 0, 0, 0, 0, 0, 0, 0}) {
            due("sweeps on", y.sweeps(), want);
        }
        dueAll("0 at least", sides(y), 0, 0, 9, 9, 9, 9, 8, 0);
        due("spins when worn out", y.spins(4), 4);
        due("sweeps when worn out", y.sweeps(), 7);
        BesomYard z = Check.told("l1;");
        due("from 1 to 0", z.sweeps(), 0);
        dueAll("from 1", sides(z), 0, 0, 1, 1, 1, 1, 1, 0);
    }

    // Promise 15
    private static void undo() {
        BesomYard y = Check.told("w9 9;o5 2 7;t3;p2;");
        y.cuts(0);
        y.year();
        y.binds(3);
        y.sends(0);
        y.sweeps();
        y.spins(3);
        dueAll("done", nows(y), 2, 1, 54, 1, 7, 1, 3, 6);
        y.saw(0, 0, 7);
        y.keep(0);
        y.rate(0, 0);
        y.spins(8);
        y.sends(0);
        due("undo spins", y.undo(), 5);
        dueAll("spins undone", nows(y), 2, 1, 54, 1, 7, 1, 0, 5);
        due("undo sweeps", y.undo(), 4);
        dueAll("sweeps undone", sides(y), 9, 9, 9, 9, 9, 9, 9, 9);
        due("undo sends", y.undo(), 3);
        dueAll("sends undone", nows(y), 2, 1, 54, 3, 0, 0, 0, 3);
        due("undo binds", y.undo(), 2);
        dueAll("binds undone", nows(y), 0, 1, 63, 0, 0, 0, 0, 2);
        due("undo year", y.undo(), 1);
        due("year undone", y.part(0, 1), 0);
        due("undo cuts", y.undo(), 0);
        dueAll("cuts undone", nows(y), 0, 0, 0, 0, 0, 0, 0, 0);
        due("cuts undone: age", y.part(0, 1), 9);
        due("undo none", y.undo(), STATE);
        due("SEEN is not undone", y.count(6), 1);
        due("TRACE is not undone", y.trace(), 1);
        due("IMAGES are not undone", y.back(0), 2);
        BesomYard z = new BesomYard();
        for (int i = 1; i <= 23; i++) {
            z.year();
            due("known", z.now(7), Math.min(10, i));
        }
        for (int left = 9; left >= 0; left--) {
            due("undo of 10", z.undo(), left);
        }
        due("older ones are lost", z.undo(), STATE);
        due("YEAR", z.now(1), 13);
        z.year();
        due("undone anew", z.undo(), 0);
        due("YEAR again", z.now(1), 13);
        mixedUndo();
    }

    private static void mixedUndo() {
        BesomYard y = new BesomYard();
        for (int i = 0; i < 13; i++) {
            y.year();
        }
        y.undo();
        y.undo();
        y.spins(2);
        due("front", y.now(6), 2);
        due("undo the latest", y.undo(), 8);
        due("back in front", y.now(6), 0);
        due("YEAR of it", y.now(1), 11);
        due("undo before", y.undo(), 7);
        due("YEAR before", y.now(1), 10);
    }

    // Promise 16
    private static void inYears() {
        BesomYard y = Check.told("w9 0;w3 9;w2 30;");
        due("in 0", y.inYears(1, 0), 21);
        due("in 1", y.inYears(1, 1), 18);
        due("in 7", y.inYears(0, 7), 45);
        due("in 9", y.inYears(0, 9), 63);
        due("in 10", y.inYears(0, 10), 54);
        due("in 30", y.inYears(2, 30), 0);
        due("in 31", y.inYears(0, 31), BAD);
        due("in -1", y.inYears(0, -1), BAD);
        due("in MAX", y.inYears(0, MAX), BAD);
        due("no such part", y.inYears(3, 0), BAD);
        due("part -1", y.inYears(-1, 0), BAD);
        due("nothing grew", y.part(0, 1), 0);
    }

    // Promise 17
    private static void turn() {
        BesomYard y = new BesomYard();
        int[][] rows = {{1, 0, 1}, {2, 0, 1}, {3, 1, 3}, {4, 1, 2}, {6, 2, 3}, {8, 3, 4}, {9, 7, 9},
            {10, 3, 5}, {12, 1, 3}, {15, 1, 15}, {16, 0, 1}, {30, 0, 1}};
        for (int[] row : rows) {
            due("turn upper " + row[0], y.turn(row[0], 0), row[1]);
            due("turn lower " + row[0], y.turn(row[0], 1), row[2]);
            due("turn best " + row[0], y.turn(row[0], 2), 9);
        }
        for (int wrong : new int[] {0, 31, -1, MIN, MAX}) {
            due("turn of " + wrong, y.turn(wrong, 0), BAD);
            due("turn of " + wrong + ", best", y.turn(wrong, 2), BAD);
        }
        due("turn what 3", y.turn(1, 3), BAD);
        due("turn what -1", y.turn(1, -1), BAD);
        due("best of 3", Check.told("r3;").turn(30, 2), 3);
        due("best of 15", Check.told("r15;").turn(1, 2), 15);
    }

    // Promise 18
    private static void plan() {
        BesomYard y = Check.told("w3 9;w5 4;w2 14;w9 2;");
        due("one year", y.plan(1, -1), 21);
        due("one year, which", y.plan(1, 0), 0);
        // 21 of part 0, then 15 of part 1 at age 5, then 18 of part 3 at age 4.
        due("three years", y.plan(3, -1), 54);
        due("k at n", y.plan(3, 3), NONE);
        due("k beyond n", y.plan(1, 3), NONE);
        due("k 4", y.plan(4, 4), BAD);
        due("k -2", y.plan(4, -2), BAD);
        due("n 0", y.plan(0, -1), BAD);
        due("n 5", y.plan(5, -1), BAD);
        due("n MIN", y.plan(MIN, 0), BAD);
        due("k MAX", y.plan(1, MAX), BAD);
        due("nothing was cut", y.now(2), 0);
        due("no age is changed", y.part(3, 1), 2);
        // Over-ripe wood: cut at once for nothing, it gives again three years later.
        BesomYard old = Check.told("w9 30;");
        due("old wood", old.plan(4, -1), 9);
        due("old wood, cut first", old.plan(4, 0), 0);
        due("old wood, wait", old.plan(4, 1), -5);
        due("old wood, wait on", old.plan(4, 2), -5);
        due("old wood, cut last", old.plan(4, 3), 0);
        due("old wood, three years", old.plan(3, -1), 0);
        due("old wood, three years, none", old.plan(3, 0), -5);
        // Ages go on from NOW.
        BesomYard late = Check.told("w1 0;");
        for (int i = 0; i < 6; i++) {
            late.year();
        }
        due("from NOW on", late.plan(4, -1), 7);
        due("from NOW on, at the end", late.plan(4, 3), 0);
        late.cuts(0);
        due("behind a cut", late.plan(4, -1), 1);
        due("no parts", new BesomYard().plan(4, -1), 0);
        due("no parts, none", new BesomYard().plan(4, 3), -5);
    }

    private static void planSeveral() {
        BesomYard y = Check.told("w1 3;w1 9;w1 9;");
        // 7 by part 1 or 2: the lower one.
        due("the lower part", y.plan(1, 0), 1);
        BesomYard z = Check.told("w1 9;");
        due("ripe now", z.plan(2, 0), 0);
        due("none behind it", z.plan(2, 1), -5);
        BesomYard same = Check.told("r9;w1 9;w2 6;");
        // Each row that cuts both gets 7 and what part 1 has then: later is more.
        due("both", same.plan(2, -1), 17);
        due("part 0 first", same.plan(2, 0), 0);
        due("part 1 then", same.plan(2, 1), 1);
        // Either year is as good: none comes ahead, as late as may be.
        BesomYard none = Check.told("w1 30;w1 3;r3;");
        due("worth 1", none.plan(1, -1), 1);
        due("part 1", none.plan(1, 0), 1);
        BesomYard again = Check.told("w2 3;r3;");
        due("cut twice", again.plan(4, -1), 4);
        due("cut twice, first", again.plan(4, 0), 0);
        due("cut twice, last", again.plan(4, 3), 0);
    }

    // Promise 19
    private static void kept() {
        due("no orders", new BesomYard().kept(0), 0);
        due("no orders, coins", new BesomYard().kept(1), 0);
        due("what 2", new BesomYard().kept(2), BAD);
        due("what -1", new BesomYard().kept(-1), BAD);
        BesomYard y = Check.told("w9 9;w9 9;o1 10 10;o2 10 15;o2 10 15;o3 5 0;t1;p10;");
        due("no twigs", y.kept(0), 0);
        y.cuts(0);
        // Of orders 0, 1, 2 two can be kept by day 2: 1 and 2 bring 30; 3 brings nothing.
        due("the dearest two", y.kept(0), 6);
        due("their coins", y.kept(1), 30);
        y.binds(10);
        due("bound ones first", y.kept(0), 6);
        y.sends(1);
        due("sent ones are out", y.kept(0), 4);
        due("sent ones' coins", y.kept(1), 15);
        BesomYard tie = Check.told("w9 9;o1 5 7;o1 5 7;o1 5 7;t1;p5;");
        tie.cuts(0);
        due("least bits", tie.kept(0), 1);
        BesomYard sum = Check.told("w9 9;o1 5 7;o1 5 3;o1 10 10;t1;p10;");
        sum.cuts(0);
        due("least bits of sums", sum.kept(0), 3);
        BesomYard twigs = Check.told("w9 9;o9 32 20;o9 31 10;t2;p20;");
        twigs.cuts(0);
        // 63 twigs make 31 besoms.
        due("as many as twigs make", twigs.kept(0), 2);
        BesomYard free = Check.told("w9 9;o5 1 0;t1;");
        free.cuts(0);
        due("nothing for nothing", free.kept(0), 0);
    }

    private static void keptInTime() {
        BesomYard y = Check.told("w9 9;o1 4 50;o2 6 3;o3 20 1;t1;p5;");
        y.cuts(0);
        due("in time", y.kept(0), 3);
        y.binds(5);
        due("DAY 1: order 0 on its day", y.kept(0), 3);
        y.binds(5);
        // DAY 2: order 0 is late though 10 are bound.
        due("DAY 2: order 0 is late", y.kept(0), 2);
        due("DAY 2: coins", y.kept(1), 3);
        y.binds(5);
        y.binds(5);
        due("DAY 4: all are late", y.kept(0), 0);
        due("DAY 4: coins", y.kept(1), 0);
        BesomYard today = Check.told("w9 9;o1 5 9;o1 1 1;t1;p5;");
        today.cuts(0);
        today.binds(5);
        due("no time left, bound ones do", today.kept(0), 1);
        // An order due later may use what is bound meanwhile, an earlier one may not.
        BesomYard row = Check.told("w9 9;o1 5 5;o2 5 5;o3 6 20;t1;p5;");
        row.cuts(0);
        due("15 by day 3", row.kept(0), 5);
        due("15 by day 3, coins", row.kept(1), 25);
    }

    // Promise 20
    private static void next() {
        BesomYard y = Check.told("w9 9;o5 3 4;o2 6 8;o2 1 1;o9 30 60;t1;");
        due("first", y.next(0), 1);
        due("dear", y.next(1), 3);
        due("what 2", y.next(2), BAD);
        due("what -1", y.next(-1), BAD);
        due("what MAX", y.next(MAX), BAD);
        y.cuts(0);
        y.binds(6);
        y.sends(1);
        due("sent ones are out", y.next(0), 2);
        due("none", new BesomYard().next(0), NONE);
        due("none dear", new BesomYard().next(1), NONE);
        BesomYard tie = Check.told("o5 3 6;o5 2 4;o5 1 2;");
        due("lowest of several", tie.next(0), 0);
        due("lowest of several dear", tie.next(1), 0);
        BesomYard close = Check.told("o9 60 98;o9 53 87;o8 11 18;");
        due("close fractions", close.next(1), 1);
        BesomYard zero = Check.told("o9 60 0;o9 1 0;");
        due("no coins at all", zero.next(1), 0);
        BesomYard late = Check.told("w9 9;o1 9 9;o3 1 1;p1;t1;");
        late.cuts(0);
        late.binds(2);
        due("late ones count", late.next(0), 0);
        due("late ones are dear", late.next(1), 0);
    }

    // Promises 21, 23
    private static void lackAndAllBy() {
        due("no orders", new BesomYard().lack(), 0);
        due("no orders, DAY", new BesomYard().allBy(), 0);
        BesomYard y = Check.told("w9 9;w1 9;o3 20 10;o5 30 25;t2;p20;");
        due("all of it", y.lack(), 100);
        due("50 by 20", y.allBy(), 3);
        y.cuts(0);
        due("stack", y.lack(), 37);
        y.binds(10);
        due("bound", y.lack(), 37);
        due("40 by 20", y.allBy(), 3);
        y.binds(1);
        due("39 by 20", y.allBy(), 4);
        y.binds(9);
        y.sends(0);
        due("sent: DAY", y.allBy(), 5);
        due("sent: lack", y.lack(), 37);
        BesomYard more = Check.told("w9 9;o9 2 1;t3;p4;");
        more.cuts(0);
        due("0 at least", more.lack(), 0);
        more.binds(5);
        due("more than enough bound", more.lack(), 0);
        due("nothing to bind", more.allBy(), 2);
        BesomYard big = Check.told("o1 60 1;o1 60 1;o1 60 1;o1 60 1;o1 60 1;o1 60 1;t20;p1;");
        due("most that may lack", big.lack(), 7200);
        due("the latest", big.allBy(), 360);
    }

    // Promise 22
    private static void cutFor() {
        due("nothing lacks", new BesomYard().cutFor(), 0);
        due("no parts", Check.told("o1 1 1;").cutFor(), NONE);
        BesomYard y = Check.told("w1 9;w2 9;w3 9;w3 9;o9 1 1;t20;");
        // 7, 14, 21, 21 twigs for 20.
        due("one is enough", y.cutFor(), 4);
        y.cuts(2);
        due("nothing lacks then", y.cutFor(), 0);
        BesomYard two = Check.told("w1 9;w2 9;w3 9;w3 9;o9 2 1;t14;");
        due("two, least bits", two.cutFor(), 5);
        BesomYard all = Check.told("w1 9;w2 9;w3 9;w3 9;o9 7 1;t9;");
        due("all four", all.cutFor(), 15);
        BesomYard none = Check.told("w1 9;w2 9;w3 9;w3 9;o9 8 1;t8;");
        due("not enough", none.cutFor(), NONE);
        BesomYard few = Check.told("w1 9;w1 9;w1 9;w2 9;o9 1 1;t14;");
        due("fewest ahead of least bits", few.cutFor(), 8);
        BesomYard six = Check.told("w1 9;w1 9;w1 9;w1 9;w1 9;w1 9;o9 6 1;t7;");
        due("all six", six.cutFor(), 63);
        due("nothing was cut", few.now(2), 0);
    }

    // Promises 24, 25
    private static void lastsAndLatest() {
        BesomYard y = new BesomYard();
        for (int s = 0; s < 8; s++) {
            due("lasts " + s, y.lasts(s), lastsBySteps(new BesomYard(), s));
        }
        due("lasts 0", y.lasts(0), 5);
        due("lasts 1", y.lasts(1), 17);
        due("lasts 4", y.lasts(4), 9);
        due("lasts 8", y.lasts(8), BAD);
        due("lasts -1", y.lasts(-1), BAD);
        due("lasts MIN", y.lasts(MIN), BAD);
        due("latest", y.latest(), 1);
        dueAll("nothing was swept", sides(y), 9, 9, 9, 9, 9, 9, 9, 9);
        due("front stays", y.now(6), 0);
        y.spins(5);
        y.sweeps();
        for (int s = 0; s < 8; s++) {
            BesomYard z = new BesomYard();
            z.spins(5);
            z.sweeps();
            due("lasts behind a sweep " + s, y.lasts(s), lastsBySteps(z, s));
        }
        BesomYard one = Check.told("l1;");
        due("one sweep", one.lasts(5), 1);
        due("all the same", one.latest(), 0);
        one.sweeps();
        due("worn out", one.lasts(3), 0);
        due("worn out, latest", one.latest(), 0);
        BesomYard two = Check.told("l2;");
        due("all last one sweep", two.latest(), 0);
        BesomYard most = Check.told("l15;");
        due("latest of 15", most.latest(), 2);
        due("lasts of 15", most.lasts(2), 29);
    }

    private static int lastsBySteps(BesomYard y, int s) {
        for (int swept = 0; swept < 200; swept++) {
            for (int i = 0; i < 8; i++) {
                if (y.side(i) == 0) {
                    return swept;
                }
            }
            y.sweeps();
            if (s > 0) {
                y.spins(s);
            }
        }
        return -1;
    }

    // Promises 26, 27, 28
    private static void sawForgetWhich() {
        BesomYard y = new BesomYard();
        due("nothing seen", y.which(), 255);
        due("saw k -1", y.saw(-1, 0, 0), BAD);
        due("saw k 41", y.saw(41, 0, 0), BAD);
        due("saw s -1", y.saw(0, -1, 0), BAD);
        due("saw s 8", y.saw(0, 8, 0), BAD);
        due("saw v -1", y.saw(0, 0, -1), BAD);
        due("saw v 16", y.saw(0, 0, 16), BAD);
        due("saw MAX", y.saw(MAX, MAX, MAX), BAD);
        due("nothing seen yet", y.count(6), 0);
        due("saw now", y.saw(0, 3, 9), 1);
        due("all", y.which(), 255);
        due("saw one", y.saw(2, 0, 7), 2);
        // The second sweep is not at 0, 1, 7.
        due("turned by 2 to 6", y.which(), 0x7c);
        due("saw two", y.saw(2, 4, 8), 3);
        due("turned by 3 or 5", y.which(), 0x28);
        due("saw three", y.saw(2, 2, 8), 4);
        due("turned by 3", y.which(), 0x08);
        due("saw four", y.saw(40, 0, 0), 5);
        due("worn by then", y.which(), 0x08);
        due("full", y.saw(0, 0, 0), FULL);
        due("wrong ahead of full", y.saw(41, 0, 0), BAD);
        due("seen", y.count(6), 5);
        due("not undone", y.undo(), STATE);
        due("forget", y.forget(), 5);
        due("forget again", y.forget(), 0);
        due("forgotten", y.which(), 255);
        due("saw v 15", y.saw(0, 0, 15), 1);
        due("never so long", y.which(), 0);
        BesomYard now = new BesomYard();
        now.saw(1, 0, 7);
        due("from NOW", now.which(), 255);
        now.sweeps();
        due("from a later NOW", now.which(), 0);
        now.undo();
        due("undone", now.which(), 255);
        BesomYard far = new BesomYard();
        far.saw(40, 4, 9);
        // Turned by 0 none but 0, 1, 7 are ever swept.
        due("behind 40", far.which(), 1);
    }

    // Promise 29
    private static void odds() {
        BesomYard y = new BesomYard();
        int[][] rows = {{2, 3, 2, 112, 125}, {5, 6, 0, 1, 1}, {5, 2, 3, 0, 1}, {0, 6, 6, 1, 1}, {10, 6, 1, 0, 1},
            {10, 6, 0, 1, 1}, {0, 0, 0, 1, 1}, {10, 0, 0, 1, 1}, {3, 1, 1, 7, 10}, {5, 6, 3, 21, 32},
            {3, 6, 6, 117649, 1000000}, {1, 6, 1, 999999, 1000000}, {9, 6, 6, 1, 1000000}, {4, 5, 2, 2853, 3125},
            {0, 0, 6, 0, 1}, {7, 4, 2, 3483, 10000}};
        for (int[] r : rows) {
            String call = "odds " + r[0] + " " + r[1] + " " + r[2];
            due(call, y.odds(r[0], r[1], r[2], 0), r[3]);
            due(call + " lower", y.odds(r[0], r[1], r[2], 1), r[4]);
        }
        int[][] wrong = {{-1, 0, 0, 0}, {11, 0, 0, 0}, {0, -1, 0, 0}, {0, 7, 0, 0}, {0, 0, -1, 0}, {0, 0, 7, 0},
            {0, 0, 0, -1}, {0, 0, 0, 2}, {MAX, MAX, MAX, MAX}, {MIN, MIN, MIN, MIN}};
        for (int[] w : wrong) {
            due("odds wrong", y.odds(w[0], w[1], w[2], w[3]), BAD);
        }
    }

    // Promises 30, 34
    private static void rateAndTrace() {
        BesomYard y = Check.told("w1 0;w3 9;w2 5;");
        y.year();
        y.year();
        // Part 2: size 2, age 7, gives 10.
        int[] due = {10, 12, 3, 24, 5, 12};
        long[] adds = {1, 11, 101, 1011, 10101, 100001};
        long trace = 0;
        for (int kind = 0; kind < 6; kind++) {
            due("rate " + kind, y.rate(kind, 2), due[kind]);
            trace += adds[kind];
            due("trace " + kind, y.trace(), trace);
        }
        for (int wrong : new int[] {-1, 6, MIN, MAX}) {
            due("rate kind " + wrong, y.rate(wrong, 0), NO);
        }
        for (int wrong : new int[] {-1, 3, MIN, MAX}) {
            due("rate part " + wrong, y.rate(0, wrong), NO);
        }
        due("refused ones leave no trace", y.trace(), trace);
        for (int i = 0; i < 30; i++) {
            y.year();
        }
        due("heather below 0", y.rate(2, 0), -32);
        due("knot below 0", y.rate(4, 1), -39);
        due("bramble by year", y.rate(5, 0), 32);
    }

    // Promises 31, 32
    private static void images() {
        BesomYard y = Check.told("w9 9;o5 2 7;t3;p2;");
        y.cuts(0);
        due("keep", y.keep(0), 0);
        y.year();
        y.binds(3);
        y.sends(0);
        y.sweeps();
        y.spins(3);
        due("keep later", y.keep(1), 2);
        for (int wrong : new int[] {-1, 2, MIN, MAX}) {
            due("keep " + wrong, y.keep(wrong), BAD);
            due("back " + wrong, y.back(wrong), BAD);
        }
        due("keep undoes nothing", y.now(7), 6);
        y.saw(0, 0, 7);
        y.rate(0, 0);
        due("back", y.back(0), 0);
        dueAll("as kept", nows(y), 0, 0, 63, 0, 0, 0, 0, 0);
        dueAll("sides as kept", sides(y), 9, 9, 9, 9, 9, 9, 9, 9);
        due("age as kept", y.part(0, 1), 0);
        due("not sent", y.order(0, 3), 0);
        due("nothing undone behind back", y.undo(), STATE);
        due("SEEN stays", y.count(6), 1);
        due("TRACE stays", y.trace(), 1);
        due("back to the other", y.back(1), 2);
        dueAll("as kept later", nows(y), 2, 1, 54, 1, 7, 1, 3, 0);
        dueAll("sides as kept later", sides(y), 7, 8, 9, 9, 9, 9, 9, 8);
        due("age as kept later", y.part(0, 1), 1);
        y.sweeps();
        due("image is not what is NOW", y.back(1), 2);
        dueAll("sides again", sides(y), 7, 8, 9, 9, 9, 9, 9, 8);
        y.binds(2);
        due("keep over it", y.keep(1), 3);
        y.back(0);
        due("the newer one", y.back(1), 3);
        BesomYard z = new BesomYard();
        z.year();
        due("back without an image", z.back(0), STATE);
        due("refused back leaves what is undone", z.now(7), 1);
    }

    // Promise 33
    private static void count() {
        BesomYard y = Check.told("w1 1;w1 1;w1 1;o1 1 1;r4;t5;p6;l7;");
        Check.type(y, "abc");
        y.saw(0, 0, 0);
        y.saw(0, 0, 0);
        dueAll("count", counts(y), 3, 1, 4, 5, 6, 7, 2, 3);
        due("count 8", y.count(8), BAD);
        due("count -1", y.count(-1), BAD);
        due("BAD", BesomYard.BAD, BAD);
        due("STATE", BesomYard.STATE, STATE);
        due("FULL", BesomYard.FULL, FULL);
        due("NONE", BesomYard.NONE, NONE);
        due("NO", BesomYard.NO, NO);
    }
}
