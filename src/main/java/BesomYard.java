/**
 * A besom maker's yard: a wood in parts, twigs, besoms, orders, and the besom by the door.
 * All rows are made in the constructor and used again, so that no later call makes an object.
 */
public final class BesomYard {
    public static final int BAD = -1, STATE = -2, FULL = -3, NONE = -9;
    public static final int NO = -1000000;

    private static final int UNDO_MOST = 10;
    private static final int IMAGES = 2;
    private static final int SEEN_MOST = 5;
    private static final int BINDS_MOST = 99;
    private static final int DAY_MOST = 9999;
    private static final int YEAR_MOST = 999;
    private static final int YEARS_AHEAD = 30;
    private static final int TURN_MOST = 30;
    private static final int SWEEPINGS_MOST = 40;
    private static final int LENGTH_MOST = 15;
    private static final int TENTHS = 10;
    private static final int BESOMS_TRIED = 6;
    // Each sweeping takes something while no side is 0, and 8 sides of 15 hold 120 in all.
    private static final int LASTS_BOUND = 200;

    private final Text text = new Text();
    private Told told = new Told();
    private Told draft = new Told();
    private final Moment here = new Moment();
    private final Shelf past = new Shelf(UNDO_MOST);
    private int pastMany;
    private int pastNext;
    private final Shelf images = new Shelf(IMAGES);
    private final boolean[] imageKept = new boolean[IMAGES];
    private final int[] seenBehind = new int[SEEN_MOST];
    private final int[] seenSide = new int[SEEN_MOST];
    private final int[] seenLength = new int[SEEN_MOST];
    private int seenMany;
    private final Besom trial = new Besom();
    private final Planner planner = new Planner();
    private long traced;

    public BesomYard() {
        startAnew();
    }

    // ---- the yard

    public int type(int letter) {
        if (letter < 0 || letter > 255) {
            return BAD;
        }
        return text.add((char) letter) ? text.size() : FULL;
    }

    public int clear() {
        int had = text.size();
        text.empty();
        return had;
    }

    public int yard() {
        int items = draft.readFrom(text);
        if (items < 0) {
            return items;
        }
        Told before = told;
        told = draft;
        draft = before;
        text.empty();
        startAnew();
        return items;
    }

    public int part(int p, int what) {
        if (!isPart(p)) {
            return BAD;
        }
        switch (what) {
            case 0:
                return told.value(Told.SIZE, p);
            case 1:
                return here.age(p);
            case 2:
                return giftOf(p);
            default:
                return BAD;
        }
    }

    public int order(int o, int what) {
        if (!isOrder(o)) {
            return BAD;
        }
        switch (what) {
            case 0:
                return told.value(Told.DAY, o);
            case 1:
                return told.value(Told.BESOMS, o);
            case 2:
                return told.value(Told.COINS, o);
            case 3:
                return here.wasSent(o) ? 1 : 0;
            default:
                return BAD;
        }
    }

    public int side(int s) {
        return isSide(s) ? here.door.lengthOf(s) : BAD;
    }

    public int now(int what) {
        switch (what) {
            case 0:
                return here.day;
            case 1:
                return here.year;
            case 2:
                return here.stack;
            case 3:
                return here.bound;
            case 4:
                return here.earned;
            case 5:
                return here.sent;
            case 6:
                return here.door.front;
            case 7:
                return pastMany;
            default:
                return BAD;
        }
    }

    // ---- what is done

    public int cuts(int p) {
        if (!isPart(p)) {
            return BAD;
        }
        remember();
        int twigs = giftOf(p);
        here.stack += twigs;
        here.beCut(p);
        return twigs;
    }

    public int year() {
        if (here.year >= YEAR_MOST) {
            return STATE;
        }
        remember();
        here.year++;
        here.growOlder();
        return here.year;
    }

    public int binds(int n) {
        if (n < 1 || n > BINDS_MOST) {
            return BAD;
        }
        int twigs = n * told.twigs();
        int day = here.day + cutUpwards(n, told.pace());
        if (twigs > here.stack || day > DAY_MOST) {
            return STATE;
        }
        remember();
        here.stack -= twigs;
        here.bound += n;
        here.day = day;
        return day;
    }

    public int sends(int o) {
        if (!isOrder(o)) {
            return BAD;
        }
        int besoms = told.value(Told.BESOMS, o);
        if (here.wasSent(o) || besoms > here.bound || isLate(o)) {
            return STATE;
        }
        remember();
        here.bound -= besoms;
        here.earned += told.value(Told.COINS, o);
        here.sent |= 1 << o;
        return here.earned;
    }

    public int sweeps() {
        remember();
        here.door.sweep();
        return here.door.lengthOf(here.door.front);
    }

    public int spins(int s) {
        if (s < 1 || s >= Besom.SIDES) {
            return BAD;
        }
        remember();
        here.door.turnBy(s);
        return here.door.front;
    }

    public int undo() {
        if (pastMany < 1) {
            return STATE;
        }
        pastMany--;
        pastNext = pastNext < 1 ? UNDO_MOST - 1 : pastNext - 1;
        past.take(pastNext, here);
        return pastMany;
    }

    // ---- the wood

    public int inYears(int p, int n) {
        if (!isPart(p) || n < 0 || n > YEARS_AHEAD) {
            return BAD;
        }
        return gift(told.value(Told.SIZE, p), here.age(p) + n, told.ripe());
    }

    public int turn(int y, int what) {
        if (y < 1 || y > TURN_MOST || what < 0 || what > 2) {
            return BAD;
        }
        if (what == 2) {
            return bestTurn();
        }
        int twigs = gift(1, y, told.ripe());
        return inLeastTerms(twigs, y, what);
    }

    public int plan(int n, int k) {
        if (n < 1 || n > Planner.YEARS || k < -1 || k >= Planner.YEARS) {
            return BAD;
        }
        if (k >= n) {
            return NONE;
        }
        planner.find(told, here, n);
        return k < 0 ? planner.mostTwigs() : planner.chosenIn(k);
    }

    // ---- orders

    public int kept(int what) {
        if (what < 0 || what > 1) {
            return BAD;
        }
        int sets = 1 << told.orders();
        int best = 0;
        int most = 0;
        for (int set = 1; set < sets; set++) {
            int coins = coinsOf(set);
            if (coins > most && canBeKept(set)) {
                best = set;
                most = coins;
            }
        }
        return what == 0 ? best : most;
    }

    public int next(int what) {
        if (what < 0 || what > 1) {
            return BAD;
        }
        int found = NONE;
        for (int o = 0; o < told.orders(); o++) {
            if (!here.wasSent(o) && (found < 0 || goesAhead(o, found, what))) {
                found = o;
            }
        }
        return found;
    }

    public int lack() {
        return lackingTwigs();
    }

    public int cutFor() {
        int lacking = lackingTwigs();
        int sets = 1 << told.parts();
        int found = NONE;
        int fewest = Told.ITEMS + 1;
        for (int set = 0; set < sets; set++) {
            int many = Integer.bitCount(set);
            if (many < fewest && giftsOf(set) >= lacking) {
                found = set;
                fewest = many;
            }
        }
        return found;
    }

    public int allBy() {
        return here.day + cutUpwards(besomsToBind(), told.pace());
    }

    // ---- the besom by the door

    public int lasts(int s) {
        return isSide(s) ? sweepingsBy(s) : BAD;
    }

    public int latest() {
        int best = 0;
        int most = -1;
        for (int s = 0; s < Besom.SIDES; s++) {
            int sweepings = sweepingsBy(s);
            if (sweepings > most) {
                best = s;
                most = sweepings;
            }
        }
        return best;
    }

    public int saw(int k, int s, int v) {
        if (k < 0 || k > SWEEPINGS_MOST || !isSide(s) || v < 0 || v > LENGTH_MOST) {
            return BAD;
        }
        if (seenMany < 0 || seenMany >= SEEN_MOST) {
            return FULL;
        }
        seenBehind[seenMany] = k;
        seenSide[seenMany] = s;
        seenLength[seenMany] = v;
        seenMany++;
        return seenMany;
    }

    public int forget() {
        int had = seenMany;
        seenMany = 0;
        return had;
    }

    public int which() {
        int bits = 0;
        for (int s = 0; s < Besom.SIDES; s++) {
            if (allSeenIsSoBy(s)) {
                bits |= 1 << s;
            }
        }
        return bits;
    }

    public int odds(int x, int n, int k, int what) {
        if (x < 0 || x > TENTHS || n < 0 || n > BESOMS_TRIED
                || k < 0 || k > BESOMS_TRIED || what < 0 || what > 1) {
            return BAD;
        }
        int upper = 0;
        for (int hold = k; hold <= n; hold++) {
            upper += waysToChoose(n, hold) * power(TENTHS - x, hold) * power(x, n - hold);
        }
        return inLeastTerms(upper, power(TENTHS, n), what);
    }

    // ---- kinds, images

    public int rate(int kind, int p) {
        if (!isPart(p)) {
            return NO;
        }
        switch (kind) {
            case 0:
                return rateAsPart(p);
            case 1:
                return rateAsBirch(p);
            case 2:
                return rateAsHeather(p);
            case 3:
                return rateAsStake(p);
            case 4:
                return rateAsKnot(p);
            case 5:
                return rateAsBramble(p);
            default:
                return NO;
        }
    }

    public int keep(int image) {
        if (!isImage(image)) {
            return BAD;
        }
        images.put(image, here);
        imageKept[image] = true;
        return here.day;
    }

    public int back(int image) {
        if (!isImage(image)) {
            return BAD;
        }
        if (!imageKept[image]) {
            return STATE;
        }
        images.take(image, here);
        forgetPast();
        return here.day;
    }

    public int count(int what) {
        switch (what) {
            case 0:
                return told.parts();
            case 1:
                return told.orders();
            case 2:
                return told.ripe();
            case 3:
                return told.twigs();
            case 4:
                return told.pace();
            case 5:
                return told.lengthAtFirst();
            case 6:
                return seenMany;
            case 7:
                return text.size();
            default:
                return BAD;
        }
    }

    public long trace() {
        return traced;
    }

    // ---- what there is

    private boolean isPart(int p) {
        return p >= 0 && p < told.parts();
    }

    private boolean isOrder(int o) {
        return o >= 0 && o < told.orders();
    }

    private static boolean isSide(int s) {
        return s >= 0 && s < Besom.SIDES;
    }

    private static boolean isImage(int image) {
        return image >= 0 && image < IMAGES;
    }

    private boolean isLate(int o) {
        return here.day > told.value(Told.DAY, o);
    }

    // ---- beginning, remembering

    // THE TRACE stays: the document names what is gone when a text is read, and it is not among that.
    private void startAnew() {
        here.begin(told);
        forgetPast();
        seenMany = 0;
        for (int i = 0; i < imageKept.length; i++) {
            imageKept[i] = false;
        }
    }

    private void forgetPast() {
        pastMany = 0;
        pastNext = 0;
    }

    private void remember() {
        past.put(pastNext, here);
        pastNext = pastNext + 1 < UNDO_MOST ? pastNext + 1 : 0;
        pastMany = Math.min(UNDO_MOST, pastMany + 1);
    }

    // ---- the wood

    private int giftOf(int p) {
        return gift(told.value(Told.SIZE, p), here.age(p), told.ripe());
    }

    private static int gift(int size, int age, int ripe) {
        int years = age <= ripe ? age - 2 : ripe - 2 - (age - ripe);
        return years > 0 ? size * years : 0;
    }

    private int giftsOf(int set) {
        int twigs = 0;
        for (int p = 0; p < told.parts(); p++) {
            if ((set >> p & 1) == 1) {
                twigs += giftOf(p);
            }
        }
        return twigs;
    }

    // Fractions are compared crosswise: y is above 0, so that no division is needed.
    private int bestTurn() {
        int best = 1;
        int most = gift(1, 1, told.ripe());
        for (int y = 2; y <= TURN_MOST; y++) {
            int twigs = gift(1, y, told.ripe());
            if (twigs * best > most * y) {
                best = y;
                most = twigs;
            }
        }
        return best;
    }

    // ---- orders

    private int coinsOf(int set) {
        int coins = 0;
        for (int o = 0; o < told.orders(); o++) {
            if ((set >> o & 1) == 1) {
                coins += told.value(Told.COINS, o);
            }
        }
        return coins;
    }

    private int besomsDueBy(int set, int day) {
        int besoms = 0;
        for (int o = 0; o < told.orders(); o++) {
            if ((set >> o & 1) == 1 && told.value(Told.DAY, o) <= day) {
                besoms += told.value(Told.BESOMS, o);
            }
        }
        return besoms;
    }

    // An order whose day is over can't be sent in time, however many besoms there are.
    private boolean canBeKept(int set) {
        int twigsFor = cutDownwards(here.stack, told.twigs());
        for (int o = 0; o < told.orders(); o++) {
            if ((set >> o & 1) == 0) {
                continue;
            }
            int due = told.value(Told.DAY, o);
            int bindable = Math.min(twigsFor, told.pace() * Math.max(0, due - here.day));
            if (here.wasSent(o) || isLate(o) || besomsDueBy(set, due) > here.bound + bindable) {
                return false;
            }
        }
        return true;
    }

    private boolean goesAhead(int o, int other, int what) {
        if (what == 0) {
            return told.value(Told.DAY, o) < told.value(Told.DAY, other);
        }
        return told.value(Told.COINS, o) * told.value(Told.BESOMS, other)
                > told.value(Told.COINS, other) * told.value(Told.BESOMS, o);
    }

    private int besomsToBind() {
        int besoms = 0;
        for (int o = 0; o < told.orders(); o++) {
            if (!here.wasSent(o)) {
                besoms += told.value(Told.BESOMS, o);
            }
        }
        return Math.max(0, besoms - here.bound);
    }

    private int lackingTwigs() {
        return Math.max(0, besomsToBind() * told.twigs() - here.stack);
    }

    // ---- the besom by the door

    private int sweepingsBy(int s) {
        trial.setAs(here.door);
        int sweepings = 0;
        while (sweepings < LASTS_BOUND && !trial.isWornOut()) {
            trial.sweep();
            trial.turnBy(s);
            sweepings++;
        }
        return sweepings;
    }

    private boolean allSeenIsSoBy(int s) {
        trial.setAs(here.door);
        for (int behind = 0; behind <= SWEEPINGS_MOST; behind++) {
            if (!seenFits(behind)) {
                return false;
            }
            trial.sweep();
            trial.turnBy(s);
        }
        return true;
    }

    private boolean seenFits(int behind) {
        for (int i = 0; i < seenMany && i < SEEN_MOST; i++) {
            if (seenBehind[i] == behind && trial.lengthOf(seenSide[i]) != seenLength[i]) {
                return false;
            }
        }
        return true;
    }

    // ---- kinds: each body adds its number to the trace, and asks the kind above once

    private int rateAsPart(int p) {
        traced += 1;
        return giftOf(p);
    }

    private int rateAsBirch(int p) {
        traced += 10;
        return rateAsPart(p) + told.value(Told.SIZE, p);
    }

    private int rateAsHeather(int p) {
        traced += 100;
        return rateAsPart(p) - here.age(p);
    }

    private int rateAsStake(int p) {
        traced += 1000;
        return 2 * rateAsBirch(p);
    }

    private int rateAsKnot(int p) {
        traced += 10000;
        return rateAsHeather(p) + p;
    }

    private int rateAsBramble(int p) {
        traced += 100000;
        return rateAsPart(p) + here.year;
    }

    // ---- numbers

    private static int cutUpwards(int n, int by) {
        return by < 1 ? 0 : (n + by - 1) / by;
    }

    private static int cutDownwards(int n, int by) {
        return by < 1 ? 0 : n / by;
    }

    private static int inLeastTerms(int upper, int lower, int what) {
        int common = commonDivisor(upper, lower);
        int number = what == 0 ? upper : lower;
        return common < 1 ? number : number / common;
    }

    private static int commonDivisor(int a, int b) {
        int larger = a;
        int smaller = b;
        for (int step = 0; step < 64 && smaller != 0; step++) {
            int rest = larger % smaller;
            larger = smaller;
            smaller = rest;
        }
        return larger;
    }

    private static int power(int base, int times) {
        int product = 1;
        for (int i = 0; i < times; i++) {
            product *= base;
        }
        return product;
    }

    private static int waysToChoose(int n, int k) {
        int ways = 1;
        for (int i = 1; i <= k; i++) {
            ways = ways * (n - k + i) / i;
        }
        return ways;
    }

    /** THE TEXT, and the token of it that is looked at. */
    private static final class Text {
        static final int LETTERS = 200;
        static final int END = -1, NUMBER = -2, WRONG = -3;
        static final int NUMBER_MOST = 99;

        private final char[] letters = new char[LETTERS];
        private int many;
        private int start;
        private int behind;
        // A letter that may be a token, or END, NUMBER, WRONG.
        private int token;
        private int number;

        int size() {
            return many;
        }

        void empty() {
            many = 0;
        }

        boolean add(char letter) {
            if (many < 0 || many >= LETTERS) {
                return false;
            }
            letters[many] = letter;
            many++;
            return true;
        }

        void rewind() {
            behind = 0;
        }

        int tokenStart() {
            return start;
        }

        int tokenNumber() {
            return number;
        }

        /** Goes on to the next token: what it is. At the text's end the start is the text's length. */
        int goOn() {
            start = behind;
            while (start < many && letterAt(start) == ' ') {
                start++;
            }
            behind = start;
            if (start >= many) {
                token = END;
            } else if (isDigit(start)) {
                readNumber();
            } else {
                token = letterAt(start);
                behind++;
            }
            return token;
        }

        private void readNumber() {
            number = 0;
            while (behind < many && isDigit(behind)) {
                // Held just above the limit, so that a long row of digits can't wrap around.
                number = Math.min(NUMBER_MOST + 1, number * 10 + letterAt(behind) - '0');
                behind++;
            }
            boolean zeroAhead = letterAt(start) == '0' && behind - start > 1;
            token = zeroAhead || number > NUMBER_MOST ? WRONG : NUMBER;
        }

        private boolean isDigit(int place) {
            int letter = letterAt(place);
            return letter >= '0' && letter <= '9';
        }

        private int letterAt(int place) {
            return place < 0 || place >= LETTERS ? ' ' : letters[place];
        }
    }

    /** What a text tells: for each number that an item has, a row with a place for each such item. */
    private static final class Told {
        static final int ITEMS = 6;
        static final int SIZE = 0, AGE = 1, DAY = 2, BESOMS = 3, COINS = 4;
        static final int RIPE = 5, TWIGS = 6, PACE = 7, LONG = 8;
        private static final int ROWS = 9;
        // By row: what a number may be, and what it is if no item tells it.
        private static final int[] LEAST = {1, 0, 1, 1, 0, 3, 1, 1, 1};
        private static final int[] MOST = {9, 30, 60, 60, 99, 15, 20, 20, 15};
        private static final int[] AT_FIRST = {0, 0, 0, 0, 0, 9, 3, 11, 9};
        private static final int PART = 0, ORDER = 1;
        private static final int HEADS = 6;
        private static final String HEAD_LETTERS = "wortpl";
        // By head: its first row, how many numbers follow it, how many such items there may be.
        private static final int[] FIRST_ROW = {0, 2, 5, 6, 7, 8};
        private static final int[] NUMBERS = {2, 3, 1, 1, 1, 1};
        private static final int[] ITEMS_MOST = {6, 6, 1, 1, 1, 1};
        private static final int FAULT = -10;

        private final int[] many = new int[HEADS];
        private final int[] values = new int[ROWS * ITEMS];

        Told() {
            setAsAtFirst();
        }

        int parts() {
            return many[PART];
        }

        int orders() {
            return many[ORDER];
        }

        int ripe() {
            return value(RIPE, 0);
        }

        int twigs() {
            return value(TWIGS, 0);
        }

        int pace() {
            return value(PACE, 0);
        }

        int lengthAtFirst() {
            return value(LONG, 0);
        }

        int value(int row, int item) {
            return isPlace(row, item) ? values[row * ITEMS + item] : 0;
        }

        /** How many items the text has; or FAULT less the place, and then what is told here is of no use. */
        int readFrom(Text text) {
            setAsAtFirst();
            text.rewind();
            for (int items = 0; items <= Text.LETTERS; items++) {
                int token = text.goOn();
                if (token == Text.END) {
                    return items;
                }
                if (!readItem(text, token)) {
                    break;
                }
            }
            return FAULT - text.tokenStart();
        }

        private boolean readItem(Text text, int token) {
            int head = token < 0 ? -1 : HEAD_LETTERS.indexOf((char) token);
            if (head < 0 || head >= HEADS || many[head] >= ITEMS_MOST[head]) {
                return false;
            }
            int item = many[head];
            for (int i = 0; i < NUMBERS[head]; i++) {
                if (text.goOn() != Text.NUMBER || !take(FIRST_ROW[head] + i, item, text.tokenNumber())) {
                    return false;
                }
            }
            many[head]++;
            return text.goOn() == ';';
        }

        private boolean take(int row, int item, int number) {
            if (!isPlace(row, item) || number < LEAST[row] || number > MOST[row]) {
                return false;
            }
            values[row * ITEMS + item] = number;
            return true;
        }

        private static boolean isPlace(int row, int item) {
            return row >= 0 && row < ROWS && item >= 0 && item < ITEMS;
        }

        private void setAsAtFirst() {
            for (int head = 0; head < HEADS; head++) {
                many[head] = 0;
            }
            for (int row = 0; row < ROWS; row++) {
                for (int item = 0; item < ITEMS; item++) {
                    values[row * ITEMS + item] = AT_FIRST[row];
                }
            }
        }
    }

    /** All that is done to, undone, and kept by images. */
    private static final class Moment {
        private static final int AGE_MOST = 40;

        private final int[] ages = new int[Told.ITEMS];
        private final Besom door = new Besom();
        private int stack;
        private int bound;
        private int day;
        private int earned;
        private int sent;
        private int year;

        int age(int p) {
            return p < 0 || p >= ages.length ? 0 : ages[p];
        }

        boolean wasSent(int o) {
            return (sent >> o & 1) == 1;
        }

        void beCut(int p) {
            if (p >= 0 && p < ages.length) {
                ages[p] = 0;
            }
        }

        void growOlder() {
            for (int p = 0; p < ages.length; p++) {
                ages[p] = Math.min(AGE_MOST, ages[p] + 1);
            }
        }

        void begin(Told told) {
            for (int p = 0; p < ages.length; p++) {
                ages[p] = told.value(Told.AGE, p);
            }
            door.renew(told.lengthAtFirst());
            stack = 0;
            bound = 0;
            day = 0;
            earned = 0;
            sent = 0;
            year = 0;
        }

        void setAs(Moment other) {
            for (int p = 0; p < ages.length; p++) {
                ages[p] = other.age(p);
            }
            door.setAs(other.door);
            stack = other.stack;
            bound = other.bound;
            day = other.day;
            earned = other.earned;
            sent = other.sent;
            year = other.year;
        }
    }

    /** Moments that are put by, each in a place made ahead. */
    private static final class Shelf {
        private final Moment[] places;

        Shelf(int many) {
            places = new Moment[Math.max(0, many)];
            for (int at = 0; at < places.length; at++) {
                places[at] = new Moment();
            }
        }

        void put(int at, Moment from) {
            Moment place = placeAt(at);
            if (place != null) {
                place.setAs(from);
            }
        }

        void take(int at, Moment into) {
            Moment place = placeAt(at);
            if (place != null) {
                into.setAs(place);
            }
        }

        private Moment placeAt(int at) {
            return at < 0 || at >= places.length ? null : places[at];
        }
    }

    /** A besom: its sides in a ring, and which of them is in front. */
    private static final class Besom {
        static final int SIDES = 8;

        private final int[] lengths = new int[SIDES];
        private int front;

        int lengthOf(int s) {
            return s < 0 || s >= SIDES ? 0 : lengths[s];
        }

        void renew(int length) {
            for (int s = 0; s < SIDES; s++) {
                lengths[s] = length;
            }
            front = 0;
        }

        void setAs(Besom other) {
            for (int s = 0; s < SIDES; s++) {
                lengths[s] = other.lengthOf(s);
            }
            front = other.front;
        }

        void sweep() {
            shorten(front, 2);
            shorten(front + 1, 1);
            shorten(front - 1, 1);
        }

        void turnBy(int s) {
            front = Math.floorMod(front + s, SIDES);
        }

        boolean isWornOut() {
            for (int s = 0; s < SIDES; s++) {
                if (lengths[s] == 0) {
                    return true;
                }
            }
            return false;
        }

        private void shorten(int place, int by) {
            int s = Math.floorMod(place, SIDES);
            lengths[s] = Math.max(0, lengths[s] - by);
        }
    }

    /** Goes through all rows of cuts in their order, so that the first of the best is the one that stays. */
    private static final class Planner {
        static final int YEARS = 4;
        private static final int ROWS_MOST = 2401;
        private static final int NOTHING = -5;
        // One below PART 0, so that counting on goes from none to it.
        private static final int NO_PART = -1;

        private int most;
        private final int[] row = new int[YEARS];
        private final int[] best = new int[YEARS];
        // What is got ahead of a year: kept for the years that the next row leaves as they are.
        private final int[] got = new int[YEARS + 1];

        int mostTwigs() {
            return most;
        }

        int chosenIn(int k) {
            if (k < 0 || k >= YEARS) {
                return NONE;
            }
            return best[k] == NO_PART ? NOTHING : best[k];
        }

        void find(Told told, Moment start, int n) {
            int years = Math.max(0, Math.min(YEARS, n));
            most = -1;
            for (int year = 0; year < YEARS; year++) {
                row[year] = NO_PART;
            }
            int changed = 0;
            for (int i = 0; i < ROWS_MOST && changed >= 0; i++) {
                for (int year = changed; year < years; year++) {
                    got[year + 1] = got[year] + gotIn(year, told, start);
                }
                compare(got[years]);
                changed = goToNextRow(years, told.parts());
            }
        }

        private int gotIn(int year, Told told, Moment start) {
            int p = row[year];
            if (p == NO_PART) {
                return 0;
            }
            int age = start.age(p) + year;
            for (int before = 0; before < year; before++) {
                if (row[before] == p) {
                    age = year - before;
                }
            }
            return gift(told.value(Told.SIZE, p), age, told.ripe());
        }

        /** The first year that has another choice then; -1 behind the last row. */
        private int goToNextRow(int years, int parts) {
            for (int year = years - 1; year >= 0; year--) {
                if (row[year] + 1 < parts) {
                    row[year]++;
                    return year;
                }
                row[year] = NO_PART;
            }
            return -1;
        }

        private void compare(int twigs) {
            if (twigs > most) {
                most = twigs;
                for (int year = 0; year < YEARS; year++) {
                    best[year] = row[year];
                }
            }
        }
    }
}
