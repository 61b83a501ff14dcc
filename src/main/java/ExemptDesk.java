import java.util.NoSuchElementException;

/** A tax desk of traders who may take back only part of the tax on what they buy. */
public final class ExemptDesk {
    public static final int NONE = -1;

    /** Answered for what is still to come, for what is shut, and for "by none". */
    private static final int NOT_NOW = -2;
    private static final int NO_BASE_YET = -3;
    /** Stands for NONE where amounts below 0 are true answers. */
    private static final int NO_AMOUNT = -999999;

    private static final int TAPE_LENGTH = 700;
    private static final int FED_BYTES = 20;
    private static final int MOST_TRADERS = 4;
    private static final int MOST_ASSETS = 8;
    private static final int MOST_TOLD_ASSETS = 4;
    private static final int MOST_TOLD_SALES = 12;
    private static final int MOST_TOLD_BUYS = 12;
    private static final int MOST_INTERVALS = 10;
    private static final int MOST_HEADS = 999;
    private static final int QUARTERS = 64;
    private static final int QUARTERS_OF_YEAR = 4;
    private static final int YEARS = 16;
    private static final int LONGEST_NAME = 6;

    /** SALES of KINDS 0, 1, then TAX of KINDS 0 .. 2. */
    private static final int SUMS = 5;
    private static final int FIRST_TAX = 2;
    private static final int SALE_KINDS = 2;
    private static final int TAX_KINDS = 3;

    private static final int SORTS = 4;
    private static final int PROVISIONAL_SORT = 0;
    private static final int TRUED_SORT = 1;
    private static final int ADJUSTED_SORT = 2;
    private static final int FINAL_SORT = 3;
    private static final int ENTRIES_KEPT = 40;
    private static final int ENTRY_PARTS = 5;

    private static final int DOWN = 0;
    private static final int UP = 1;
    private static final int NEAR = 2;
    private static final int METHODS = 3;
    private static final int BY_SALES = 0;
    private static final int BY_TAX = 1;
    private static final int LEAST_STEP = 10;
    private static final int MOST_STEP = 1000;

    private static final int FOR_TAXABLE = 0;
    private static final int FOR_EXEMPT = 1;
    private static final int SOLD_TAXABLE = 0;
    private static final int SOLD_EXEMPT = 1;
    private static final int LOST = 2;
    private static final int MOST_AMOUNT = 99999;
    private static final int MOST_TAX = 9999;
    private static final int MOST_LIMIT = 9999;
    private static final int MOST_SEED = 99999;
    private static final int MOST_CLOSED = 16;
    private static final int MOST_CHANCES = 8;
    private static final int MOST_UNDONE = 20;
    private static final int MOST_SALES_NEEDED = 99999999;

    private final byte[] tape = new byte[TAPE_LENGTH];
    private int tapeLength;
    private final Reader reader = new Reader();
    /** Filled by the next TEXT, so that a TEXT with a FAULT leaves the rules in force alone. */
    private Rules spare = new Rules();
    private final Clerk clerk = new Clerk();
    /** Works on a copy of the books, for what is asked "as if". */
    private final Clerk trial = new Clerk();
    private final Past past = new Past();
    private Books image;
    private boolean imageKept;

    public ExemptDesk() {
    }

    public int feed(int a, int b, int c, int d, int e) {
        if (tapeLength + FED_BYTES > TAPE_LENGTH) {
            return NONE;
        }
        addFourBytes(a);
        addFourBytes(b);
        addFourBytes(c);
        addFourBytes(d);
        addFourBytes(e);
        return tapeLength;
    }

    private void addFourBytes(int number) {
        for (int shift = 24; shift >= 0; shift -= 8) {
            if (tapeLength < tape.length) {
                tape[tapeLength] = (byte) (number >> shift);
                tapeLength++;
            }
        }
    }

    public int text(int n) {
        if (n < 0 || n > tapeLength) {
            return NOT_NOW;
        }
        tapeLength = 0;
        int lines = reader.read(tape, n, spare);
        if (lines != NONE) {
            Rules told = spare;
            spare = clerk.rules;
            clerk.open(told);
            past.clear();
            imageKept = false;
        }
        return lines;
    }

    public int fault(int what) {
        switch (what) {
            case 0:
                return reader.fault;
            case 1:
                return reader.faultPlace;
            default:
                return NONE;
        }
    }

    public int named(int letters) {
        return clerk.rules.traderNamed(letters);
    }

    public int trader(int trader, int what) throws IndexOutOfBoundsException, NoSuchElementException {
        if (!isTrader(trader)) {
            throw new IndexOutOfBoundsException("no such trader");
        }
        switch (what) {
            case 0:
                return clerk.rules.methods[trader];
            case 1:
                return clerk.rules.bases[trader];
            case 2:
                return clerk.books.ownHeads[trader];
            case 3:
                return clerk.books.allHeads[trader];
            case 4:
                return clerk.rules.starts[trader];
            case 5:
                return clerk.books.openAssetsOf(trader);
            default:
                throw new NoSuchElementException("no such what");
        }
    }

    public int asset(int asset, int what) {
        if (!isAsset(asset)) {
            return NONE;
        }
        Asset a = clerk.books.assets[asset];
        switch (what) {
            case 0:
                return a.owner;
            case 1:
                return a.use;
            case 2:
                return a.tax;
            case 3:
                return a.intervals;
            case 4:
                return a.quarter;
            case 5:
                return a.through > 0 ? a.base : NOT_NOW;
            case 6:
                return a.gone;
            case 7:
                return a.shut ? 1 : 0;
            case 8:
                return a.nextOwner;
            case 9:
                return a.through > 0 ? a.first : NOT_NOW;
            default:
                return NONE;
        }
    }

    public int sale(int trader, int kind, int amount) {
        if (!isTrader(trader) || !isIn(kind, 0, SALE_KINDS - 1) || !isIn(amount, 1, MOST_AMOUNT)) {
            return NONE;
        }
        past.add(clerk.books);
        return clerk.books.addToSum(trader, clerk.books.now, kind, amount);
    }

    public int buy(int trader, int kind, int tax) {
        if (!isTrader(trader) || !isIn(kind, 0, TAX_KINDS - 1) || !isIn(tax, 1, MOST_TAX)) {
            return NONE;
        }
        past.add(clerk.books);
        return clerk.books.addToSum(trader, clerk.books.now, FIRST_TAX + kind, tax);
    }

    public int late(int trader, int quarter, int what, int amount) {
        int yearBegin = clerk.books.now / QUARTERS_OF_YEAR * QUARTERS_OF_YEAR;
        if (!isTrader(trader) || !isIn(quarter, yearBegin, clerk.books.now - 1)
                || !isIn(what, 0, SUMS - 1) || !isIn(amount, 1, MOST_TAX)) {
            return NONE;
        }
        past.add(clerk.books);
        return clerk.books.addToSum(trader, quarter, what, amount);
    }

    public boolean heads(int trader, int own, int all) {
        if (!isTrader(trader) || !isIn(all, 0, MOST_HEADS) || !isIn(own, 0, all)) {
            return false;
        }
        past.add(clerk.books);
        clerk.books.ownHeads[trader] = own;
        clerk.books.allHeads[trader] = all;
        return true;
    }

    public int acquire(int trader, int use, int tax, int intervals) {
        if (!isTrader(trader) || !isIn(use, 0, TAX_KINDS - 1) || !isIn(tax, 1, MOST_AMOUNT)
                || !isIntervals(intervals)) {
            return NONE;
        }
        if (clerk.books.assetCount >= MOST_ASSETS) {
            return NOT_NOW;
        }
        past.add(clerk.books);
        return clerk.books.addAsset(trader, use, tax, intervals);
    }

    public boolean use(int asset, int use) {
        if (!isAsset(asset) || !isIn(use, 0, TAX_KINDS - 1) || !clerk.books.assets[asset].usesMayChange()) {
            return false;
        }
        past.add(clerk.books);
        clerk.books.assets[asset].use = use;
        return true;
    }

    public int sell(int asset, int kind, int cap) {
        if (!isAsset(asset) || !isIn(kind, SOLD_TAXABLE, LOST)
                || !isIn(cap, NONE, kind == LOST ? NONE : MOST_AMOUNT)) {
            return NONE;
        }
        Asset a = clerk.books.assets[asset];
        if (!a.isFree()) {
            return NOT_NOW;
        }
        past.add(clerk.books);
        a.gone = kind;
        a.cap = cap;
        return a.intervalsBehind();
    }

    public int hand(int asset, int trader) {
        if (!isAsset(asset) || !isTrader(trader)) {
            return NONE;
        }
        Asset a = clerk.books.assets[asset];
        if (!a.isFree()) {
            return NOT_NOW;
        }
        past.add(clerk.books);
        int ahead = a.nextOwner;
        a.nextOwner = trader;
        return ahead;
    }

    public int close(int n) {
        if (!isIn(n, 1, MOST_CLOSED)) {
            return NONE;
        }
        if (!mayEnd(n)) {
            return NOT_NOW;
        }
        past.add(clerk.books);
        int ahead = clerk.books.entryCount;
        for (int i = 0; i < n; i++) {
            clerk.endQuarter();
        }
        return clerk.books.entryCount - ahead;
    }

    public int sum(int trader, int quarter, int what) {
        if (!isTrader(trader) || !isIn(quarter, 0, QUARTERS - 1) || !isIn(what, 0, SUMS - 1)) {
            return NONE;
        }
        return clerk.books.sumOf(trader, quarter, what);
    }

    public int provisional(int trader, int quarter) {
        if (!isTrader(trader) || !isIn(quarter, 0, QUARTERS - 1)) {
            return NONE;
        }
        if (quarter > clerk.books.now) {
            return NOT_NOW;
        }
        if (quarter < clerk.books.now) {
            return clerk.books.keptProvisional(trader, quarter);
        }
        return clerk.fractionByBasis(trader, quarter, clerk.rules.bases[trader]);
    }

    public int recovered(int trader, int quarter) {
        if (!isTrader(trader) || !isIn(quarter, 0, QUARTERS - 1)) {
            return NONE;
        }
        return quarter < clerk.books.now ? clerk.books.recoveredIn(trader, quarter) : NOT_NOW;
    }

    public int annual(int trader, int year, int what) {
        if (!isTrader(trader) || !isBegun(year)) {
            return NO_AMOUNT;
        }
        int fraction = clerk.annualFraction(trader, year);
        switch (what) {
            case 0:
                return fraction;
            case 1:
                return clerk.ofYear(trader, year).backBy(fraction);
            case 2:
                return clerk.ofYear(trader, year).isSmall(fraction) ? 1 : 0;
            case 3:
                return clerk.trued(trader, year);
            default:
                return NO_AMOUNT;
        }
    }

    public int interval(int asset, int i, int what) {
        if (!isAsset(asset) || !isIn(i, 0, clerk.books.assets[asset].through - 1)) {
            return NO_AMOUNT;
        }
        Asset a = clerk.books.assets[asset];
        switch (what) {
            case 0:
                return a.quarter / QUARTERS_OF_YEAR + i;
            case 1:
                return a.worths[i];
            case 2:
                return a.adjusted[i];
            case 3:
                return a.owners[i];
            default:
                return NO_AMOUNT;
        }
    }

    public int taken(int asset) {
        return isAsset(asset) ? clerk.books.assets[asset].taken : NO_AMOUNT;
    }

    public int last(int asset) {
        if (!isAsset(asset) || !clerk.books.assets[asset].finalBooked) {
            return NO_AMOUNT;
        }
        return clerk.books.assets[asset].finalAmount;
    }

    public int booked(int k, int what) {
        int kept = Math.min(clerk.books.entryCount, ENTRIES_KEPT);
        if (!isIn(k, 0, kept - 1) || !isIn(what, 0, ENTRY_PARTS - 1)) {
            return NO_AMOUNT;
        }
        return clerk.books.entryPart(k, what);
    }

    public int total(int trader, int sort) {
        if (!isTrader(trader) || !isIn(sort, 0, SORTS - 1)) {
            return NO_AMOUNT;
        }
        return clerk.books.totalOf(trader, sort);
    }

    public int by(int trader, int year, int way, int method, int step) {
        if (!isTrader(trader) || !isBegun(year) || !isIn(way, DOWN, NEAR)
                || !isIn(method, 0, METHODS - 1) || !isIn(step, LEAST_STEP, MOST_STEP)) {
            return NO_AMOUNT;
        }
        Reckoning r = clerk.ofYear(trader, year);
        r.way = way;
        r.method = method;
        r.step = step;
        return r.backBy(r.fraction());
    }

    public int bestMethod(int trader, int year) {
        if (!isTrader(trader) || !isYear(year)) {
            return NONE;
        }
        if (!isBegun(year)) {
            return NOT_NOW;
        }
        Reckoning r = clerk.ofYear(trader, year);
        int best = 0;
        int most = NONE;
        for (int method = 0; method < METHODS; method++) {
            r.method = method;
            int back = r.backBy(r.fraction());
            if (back > most) {
                most = back;
                best = method;
            }
        }
        return best;
    }

    public int bestStep(int trader, int year) {
        if (!isTrader(trader) || !isYear(year)) {
            return NONE;
        }
        if (!isBegun(year)) {
            return NOT_NOW;
        }
        Reckoning r = clerk.ofYear(trader, year);
        int best = LEAST_STEP;
        int most = NONE;
        for (int step = LEAST_STEP; step <= MOST_STEP; step++) {
            r.step = step;
            int back = r.backBy(r.fraction());
            if (back > most) {
                most = back;
                best = step;
            }
        }
        return best;
    }

    public int joint(int one, int other, int year) {
        if (!isTrader(one) || !isTrader(other) || one == other || !isBegun(year)) {
            return NO_AMOUNT;
        }
        Reckoning r = clerk.ofYear(one, year);
        clerk.joinYear(other, year);
        return r.backBy(r.fraction());
    }

    public int limitFor(int trader, int year) {
        if (!isTrader(trader) || !isYear(year)) {
            return NONE;
        }
        if (!isBegun(year)) {
            return NOT_NOW;
        }
        int fraction = clerk.annualFraction(trader, year);
        return clerk.ofYear(trader, year).leastLimit(fraction);
    }

    public int byBasis(int trader, int quarter, int basis) {
        if (!isTrader(trader) || !isIn(quarter, 0, clerk.books.now - 1) || !isIn(basis, 0, 1)) {
            return NO_AMOUNT;
        }
        int fraction = clerk.fractionByBasis(trader, quarter, basis);
        return clerk.ofQuarter(trader, quarter).backBy(fraction);
    }

    public int leader(int year) {
        if (!isYear(year)) {
            return NONE;
        }
        if (!isBegun(year)) {
            return NOT_NOW;
        }
        int best = NOT_NOW;
        int most = NONE;
        for (int trader = 0; trader < clerk.rules.traders; trader++) {
            int back = clerk.yearBack(trader, year);
            if (back > most) {
                most = back;
                best = trader;
            }
        }
        return best;
    }

    public int rise(int trader) {
        if (!isTrader(trader)) {
            return NONE;
        }
        int longest = 0;
        int length = 0;
        int ahead = NONE;
        for (int quarter = 0; quarter < clerk.books.now; quarter++) {
            int back = clerk.books.recoveredIn(trader, quarter);
            length = back > ahead ? length + 1 : 1;
            ahead = back;
            longest = Math.max(longest, length);
        }
        return longest;
    }

    public int need(int trader, int fraction) {
        if (!isTrader(trader) || !isIn(fraction, 0, clerk.rules.step)) {
            return NONE;
        }
        if (clerk.rules.methods[trader] != BY_SALES) {
            return NOT_NOW;
        }
        Reckoning r = clerk.ofYear(trader, clerk.thisYear());
        if (r.fractionWithSales(MOST_SALES_NEEDED) < fraction) {
            return NOT_NOW;
        }
        // ANNUAL never falls as SALES of KIND 0 rise, so the range that holds the answer may be halved.
        int low = 0;
        int high = MOST_SALES_NEEDED;
        for (int halvings = 0; halvings < 32 && low < high; halvings++) {
            int middle = (low + high) / 2;
            if (r.fractionWithSales(middle) >= fraction) {
                high = middle;
            } else {
                low = middle + 1;
            }
        }
        return low;
    }

    public int room(int trader, int kind) {
        if (!isTrader(trader) || !isIn(kind, 0, TAX_KINDS - 1)) {
            return NONE;
        }
        Reckoning r = clerk.ofYear(trader, clerk.thisYear());
        if (!r.isSmall(r.fraction())) {
            return NOT_NOW;
        }
        // By the CUT what is LEFT may pass a half and fall below it again, so each TAX is tried in turn.
        for (int more = 1; more <= MOST_TAX; more++) {
            r.sums[FIRST_TAX + kind]++;
            if (!r.isSmall(r.fraction())) {
                return more - 1;
            }
        }
        return MOST_TAX;
    }

    public int would(int asset, int kind) {
        if (!isFreeAsset(asset) || !isIn(kind, 0, SALE_KINDS - 1)) {
            return NO_AMOUNT;
        }
        Asset a = clerk.books.assets[asset];
        return clerk.finalFor(a, kind, a.intervalsBehind(), clerk.baseNow(a));
    }

    public int bestWait(int asset, int kind) {
        if (!isAsset(asset) || !isIn(kind, 0, SALE_KINDS - 1)) {
            return NONE;
        }
        if (!isFreeAsset(asset)) {
            return NOT_NOW;
        }
        Asset a = clerk.books.assets[asset];
        int base = clerk.baseNow(a);
        int adjusted = clerk.adjustedBy(a, clerk.worthNow(a, a.use), base);
        int best = 0;
        int most = 0;
        for (int wait = 0; wait <= a.intervalsBehind(); wait++) {
            // What is ADJUSTED this YEAR is left out: it is the same for each wait.
            int together = adjusted * wait + clerk.finalFor(a, kind, a.intervalsBehind() - wait, base);
            if (wait == 0 || together > most) {
                most = together;
                best = wait;
            }
        }
        return best;
    }

    public int project(int asset, int n) {
        if (!isFreeAsset(asset) || !isIn(n, 1, clerk.books.assets[asset].intervalsBehind() + 1)) {
            return NO_AMOUNT;
        }
        Asset a = clerk.books.assets[asset];
        int worth = clerk.worthNow(a, a.use);
        if (a.through == 0) {
            // WORTH is BASE then, so the YEARS behind have nothing to adjust.
            return clerk.firstBy(a, worth);
        }
        return a.taken + clerk.adjustedBy(a, worth, a.base) * n;
    }

    public int ifUse(int asset, int use) {
        if (!isAsset(asset) || !isIn(use, 0, TAX_KINDS - 1) || !clerk.books.assets[asset].usesMayChange()) {
            return NO_AMOUNT;
        }
        return clerk.worthNow(clerk.books.assets[asset], use);
    }

    public int owners(int asset) {
        if (!isAsset(asset)) {
            return NONE;
        }
        Asset a = clerk.books.assets[asset];
        int seen = a.shut ? 0 : 1 << a.owner;
        for (int i = 0; i < a.through && i < a.owners.length; i++) {
            seen |= 1 << a.owners[i];
        }
        return Integer.bitCount(seen);
    }

    public int even(int asset, int m) {
        if (!isAsset(asset) || !isIn(m, -MOST_AMOUNT, MOST_AMOUNT)) {
            return NONE;
        }
        Asset a = clerk.books.assets[asset];
        if (a.through == 0) {
            return NO_BASE_YET;
        }
        for (int worth = 0; worth <= clerk.rules.step; worth++) {
            if (clerk.adjustedBy(a, worth, a.base) >= m) {
                return worth;
            }
        }
        return NOT_NOW;
    }

    public int worth(int asset) {
        if (!isAsset(asset)) {
            return NONE;
        }
        Asset a = clerk.books.assets[asset];
        return a.shut ? NOT_NOW : clerk.worthNow(a, a.use);
    }

    public int tried(int n, int trader, int sort) {
        if (!isIn(n, 1, MOST_CLOSED) || !mayEnd(n) || !isTrader(trader) || !isIn(sort, 0, SORTS - 1)) {
            return NO_AMOUNT;
        }
        trial.imitate(clerk);
        for (int i = 0; i < n; i++) {
            trial.endQuarter();
        }
        return trial.books.totalOf(trader, sort) - clerk.books.totalOf(trader, sort);
    }

    public int chance(int seed, int n, int trader) {
        if (seed < -1 || !isIn(n, 1, MOST_CHANCES) || !mayEnd(n) || !isTrader(trader)) {
            return NO_AMOUNT;
        }
        trial.imitate(clerk);
        long number = seed == -1 ? clerk.rules.seed : seed;
        for (int i = 0; i < n; i++) {
            for (int kind = 0; kind < SALE_KINDS; kind++) {
                number = numberBehind(number);
                trial.books.addToSum(trader, trial.books.now, kind, (int) ((number >> 16) % 1000));
            }
            trial.endQuarter();
        }
        int more = 0;
        for (int sort = 0; sort < SORTS; sort++) {
            more += trial.books.totalOf(trader, sort) - clerk.books.totalOf(trader, sort);
        }
        return more;
    }

    public int farthest(int trader) {
        if (!isTrader(trader)) {
            return NONE;
        }
        int best = NOT_NOW;
        int most = NONE;
        for (int year = 0; year < clerk.thisYear(); year++) {
            int distance = Math.abs(clerk.trued(trader, year));
            if (distance > most) {
                most = distance;
                best = year;
            }
        }
        return best;
    }

    public int undo() {
        return past.bringBack(clerk.books) ? past.count : NONE;
    }

    public int keep() {
        if (image == null) {
            image = new Books();
        }
        image.copyFrom(clerk.books);
        imageKept = true;
        return clerk.books.now;
    }

    public int back() {
        if (!imageKept || image == null) {
            return NONE;
        }
        clerk.books.copyFrom(image);
        past.clear();
        return clerk.books.now;
    }

    public int count(int what) {
        switch (what) {
            case 0:
                return clerk.rules.traders;
            case 1:
                return clerk.books.now;
            case 2:
                return clerk.books.assetCount;
            case 3:
                return clerk.books.shutAssets();
            case 4:
                return clerk.books.entryCount;
            case 5:
                return clerk.rules.step;
            case 6:
                return clerk.rules.way;
            case 7:
                return clerk.rules.limit;
            case 8:
                return clerk.rules.saleCount;
            case 9:
                return clerk.rules.buyCount;
            case 10:
                return past.count;
            case 11:
                return tapeLength;
            case 12:
                return clerk.rules.assetCount;
            default:
                return NONE;
        }
    }

    private boolean isTrader(int trader) {
        return isIn(trader, 0, clerk.rules.traders - 1);
    }

    private boolean isAsset(int asset) {
        return isIn(asset, 0, clerk.books.assetCount - 1);
    }

    private boolean isFreeAsset(int asset) {
        return isAsset(asset) && clerk.books.assets[asset].isFree();
    }

    private static boolean isYear(int year) {
        return isIn(year, 0, YEARS - 1);
    }

    private boolean isBegun(int year) {
        return isIn(year, 0, clerk.thisYear());
    }

    /** Whether n QUARTERS more may CLOSE: the last QUARTER of all never does. */
    private boolean mayEnd(int n) {
        return clerk.books.now + n < QUARTERS;
    }

    private static boolean isIn(int number, int least, int most) {
        return number >= least && number <= most;
    }

    private static boolean isIntervals(int intervals) {
        return intervals == 5 || intervals == 10;
    }

    /** CUT of a by b; b is above 0. */
    private static long cut(long a, long b, int way) {
        if (b <= 0) {
            return 0;
        }
        if (way == DOWN) {
            return Math.floorDiv(a, b);
        }
        if (way == UP) {
            return -Math.floorDiv(-a, b);
        }
        return Math.floorDiv(2 * a + b, 2 * b);
    }

    /** The next number that a DRAW takes. */
    private static long numberBehind(long number) {
        return (number * 1103515245L + 12345L) & 0x7fffffffL;
    }

    private static void copyRow(int[] from, int[] to) {
        System.arraycopy(from, 0, to, 0, Math.min(from.length, to.length));
    }

    /** The words of the language: a TRADER has none of them for a name. */
    private enum Word {
        TRADER("trader"), HEAD("head"), START("start"), ROUND("round"), STEP("step"), LIMIT("limit"),
        SEED("seed"), SALE("sale"), BUY("buy"), ASSET("asset"), DOWNWARDS("down"), UPWARDS("up"),
        NEAREST("near");

        private static final Word[] ALL = values();

        private final String letters;

        Word(String letters) {
            this.letters = letters;
        }

        /** The word that stands from one place up to another; null if it is none of these. */
        static Word at(byte[] bytes, int from, int to) {
            if (from < 0 || to > bytes.length) {
                return null;
            }
            for (Word word : ALL) {
                boolean stands = word.letters.length() == to - from;
                for (int i = 0; stands && i < word.letters.length(); i++) {
                    stands = bytes[from + i] == word.letters.charAt(i);
                }
                if (stands) {
                    return word;
                }
            }
            return null;
        }
    }

    /** What a TEXT tells; nothing else ever changes it. */
    private static final class Rules {
        static final int MOVE_PARTS = 4;
        static final int ASSET_PARTS = 5;

        int traders;
        final int[] names = new int[MOST_TRADERS];
        final int[] methods = new int[MOST_TRADERS];
        final int[] bases = new int[MOST_TRADERS];
        final int[] starts = new int[MOST_TRADERS];
        final int[] ownHeads = new int[MOST_TRADERS];
        final int[] allHeads = new int[MOST_TRADERS];
        int way = DOWN;
        int step = 100;
        int limit;
        int seed;
        int saleCount;
        int buyCount;
        /** Told sales and buys: TRADER, QUARTER, which sum, how much. */
        final int[] moves = new int[(MOST_TOLD_SALES + MOST_TOLD_BUYS) * MOVE_PARTS];
        int assetCount;
        /** Told ASSETS: TRADER, QUARTER, USE, TAX, INTERVALS. */
        final int[] assets = new int[MOST_TOLD_ASSETS * ASSET_PARTS];

        void clear() {
            traders = 0;
            way = DOWN;
            step = 100;
            limit = 0;
            seed = 0;
            saleCount = 0;
            buyCount = 0;
            assetCount = 0;
        }

        int traderNamed(int name) {
            for (int trader = 0; trader < traders; trader++) {
                if (names[trader] == name) {
                    return trader;
                }
            }
            return NONE;
        }

        void addTrader(int name, int method, int basis) {
            if (traders >= MOST_TRADERS) {
                return;
            }
            names[traders] = name;
            methods[traders] = method;
            bases[traders] = basis;
            starts[traders] = NOT_NOW;
            ownHeads[traders] = 0;
            allHeads[traders] = 0;
            traders++;
        }

        void addSale(int trader, int quarter, int kind, int amount) {
            addMove(trader, quarter, kind, amount);
            saleCount++;
        }

        void addBuy(int trader, int quarter, int kind, int tax) {
            addMove(trader, quarter, FIRST_TAX + kind, tax);
            buyCount++;
        }

        private void addMove(int trader, int quarter, int what, int amount) {
            int at = (saleCount + buyCount) * MOVE_PARTS;
            if (at + MOVE_PARTS > moves.length) {
                return;
            }
            moves[at] = trader;
            moves[at + 1] = quarter;
            moves[at + 2] = what;
            moves[at + 3] = amount;
        }

        void addAsset(int trader, int quarter, int use, int tax, int intervals) {
            int at = assetCount * ASSET_PARTS;
            if (at + ASSET_PARTS > assets.length) {
                return;
            }
            assets[at] = trader;
            assets[at + 1] = quarter;
            assets[at + 2] = use;
            assets[at + 3] = tax;
            assets[at + 4] = intervals;
            assetCount++;
        }
    }

    /** Reads a TEXT into rules, up to its first FAULT. */
    private static final class Reader {
        private static final int CANNOT_STAND = 1;
        private static final int TOO_MUCH = 2;
        private static final int TOLD_ALREADY = 3;
        private static final int UNKNOWN_TRADER = 4;

        private static final int END = 0;
        private static final int WORD = 1;
        private static final int NUMBER = 2;
        private static final int SEMICOLON = 3;
        private static final int NO_TOKEN = 4;

        /** Above every number that may be told: a longer one is not counted on. */
        private static final int BEYOND_ALL = 1000000;

        int fault;
        int faultPlace = NONE;
        private byte[] bytes;
        private int length;
        private Rules into;
        /** The token that is looked at: its kind, from where to where, its number or packed letters. */
        private int kind;
        private int start;
        private int end;
        private int value;
        /** What the LINE has told so far. */
        private int trader;
        private int dealQuarter;
        private int dealKind;
        private final boolean[] headTold = new boolean[MOST_TRADERS];
        private boolean wayTold;
        private boolean stepTold;
        private boolean limitTold;
        private boolean seedTold;

        /** How many LINES; NONE with a FAULT. */
        int read(byte[] tape, int n, Rules rules) {
            begin(tape, n, rules);
            for (int lines = 0; lines <= TAPE_LENGTH; lines++) {
                takeToken();
                if (kind == END) {
                    return lines;
                }
                if (!readLine()) {
                    return NONE;
                }
            }
            return NONE;
        }

        private void begin(byte[] tape, int n, Rules rules) {
            bytes = tape;
            length = Math.min(n, tape.length);
            into = rules;
            into.clear();
            end = 0;
            fault = 0;
            faultPlace = NONE;
            wayTold = false;
            stepTold = false;
            limitTold = false;
            seedTold = false;
        }

        private boolean fail(int number, int place) {
            fault = number;
            faultPlace = place;
            return false;
        }

        /** The LINE whose first token has been taken, with its ';'. */
        private boolean readLine() {
            Word word = kind == WORD ? Word.at(bytes, start, end) : null;
            if (word == null) {
                return fail(CANNOT_STAND, start);
            }
            boolean read;
            switch (word) {
                case TRADER:
                    read = readTrader();
                    break;
                case HEAD:
                    read = readHead();
                    break;
                case START:
                    read = readStart();
                    break;
                case ROUND:
                    read = readRound();
                    break;
                case STEP:
                    read = readStep();
                    break;
                case LIMIT:
                    read = readLimit();
                    break;
                case SEED:
                    read = readSeed();
                    break;
                case SALE:
                    read = isRoom(into.saleCount, MOST_TOLD_SALES) && takeDeal(SALE_KINDS) && endSale();
                    break;
                case BUY:
                    read = isRoom(into.buyCount, MOST_TOLD_BUYS) && takeDeal(TAX_KINDS) && endBuy();
                    break;
                case ASSET:
                    read = isRoom(into.assetCount, MOST_TOLD_ASSETS) && takeDeal(TAX_KINDS) && endAsset();
                    break;
                default:
                    read = fail(CANNOT_STAND, start);
                    break;
            }
            if (!read) {
                return false;
            }
            takeToken();
            return kind == SEMICOLON || fail(CANNOT_STAND, start);
        }

        private boolean readTrader() {
            if (!isRoom(into.traders, MOST_TRADERS) || !takeName()) {
                return false;
            }
            int name = value;
            if (!isNew(into.traderNamed(name) == NONE) || !takeNumber(0, METHODS - 1)) {
                return false;
            }
            int method = value;
            if (!takeNumber(0, 1)) {
                return false;
            }
            headTold[into.traders] = false;
            into.addTrader(name, method, value);
            return true;
        }

        private boolean readHead() {
            if (!takeTrader() || !isNew(!headTold[trader]) || !takeNumber(0, MOST_HEADS)) {
                return false;
            }
            int own = value;
            if (!takeNumber(own, MOST_HEADS)) {
                return false;
            }
            into.ownHeads[trader] = own;
            into.allHeads[trader] = value;
            headTold[trader] = true;
            return true;
        }

        private boolean readStart() {
            if (!takeTrader() || !isNew(into.starts[trader] == NOT_NOW) || !takeNumber(0, MOST_STEP)) {
                return false;
            }
            into.starts[trader] = value;
            return true;
        }

        private boolean readRound() {
            if (!isNew(!wayTold)) {
                return false;
            }
            takeToken();
            Word word = kind == WORD ? Word.at(bytes, start, end) : null;
            if (word == Word.DOWNWARDS) {
                into.way = DOWN;
            } else if (word == Word.UPWARDS) {
                into.way = UP;
            } else if (word == Word.NEAREST) {
                into.way = NEAR;
            } else {
                return fail(CANNOT_STAND, start);
            }
            wayTold = true;
            return true;
        }

        private boolean readStep() {
            if (!isNew(!stepTold) || !takeNumber(LEAST_STEP, MOST_STEP)) {
                return false;
            }
            into.step = value;
            stepTold = true;
            return true;
        }

        private boolean readLimit() {
            if (!isNew(!limitTold) || !takeNumber(0, MOST_LIMIT)) {
                return false;
            }
            into.limit = value;
            limitTold = true;
            return true;
        }

        private boolean readSeed() {
            if (!isNew(!seedTold) || !takeNumber(0, MOST_SEED)) {
                return false;
            }
            into.seed = value;
            seedTold = true;
            return true;
        }

        /** The first three of a sale, a buy, an ASSET: TRADER, QUARTER, KIND or USE. */
        private boolean takeDeal(int kinds) {
            if (!takeTrader() || !takeNumber(0, QUARTERS - 1)) {
                return false;
            }
            dealQuarter = value;
            if (!takeNumber(0, kinds - 1)) {
                return false;
            }
            dealKind = value;
            return true;
        }

        private boolean endSale() {
            if (!takeNumber(1, MOST_AMOUNT)) {
                return false;
            }
            into.addSale(trader, dealQuarter, dealKind, value);
            return true;
        }

        private boolean endBuy() {
            if (!takeNumber(1, MOST_TAX)) {
                return false;
            }
            into.addBuy(trader, dealQuarter, dealKind, value);
            return true;
        }

        private boolean endAsset() {
            if (!takeNumber(1, MOST_TAX)) {
                return false;
            }
            int tax = value;
            if (!takeNumber(0, MOST_INTERVALS)) {
                return false;
            }
            if (!isIntervals(value)) {
                return fail(TOO_MUCH, start);
            }
            into.addAsset(trader, dealQuarter, dealKind, tax, value);
            return true;
        }

        /** Asked while the word of the LINE is the token. */
        private boolean isRoom(int told, int most) {
            return told < most || fail(TOO_MUCH, start);
        }

        private boolean isNew(boolean untold) {
            return untold || fail(TOLD_ALREADY, start);
        }

        /** A W; its packed letters are the value then. */
        private boolean takeName() {
            takeToken();
            if (kind != WORD || end - start > LONGEST_NAME || Word.at(bytes, start, end) != null) {
                return fail(CANNOT_STAND, start);
            }
            return true;
        }

        private boolean takeTrader() {
            if (!takeName()) {
                return false;
            }
            trader = into.traderNamed(value);
            return trader != NONE || fail(UNKNOWN_TRADER, start);
        }

        private boolean takeNumber(int least, int most) {
            takeToken();
            if (kind != NUMBER) {
                return fail(CANNOT_STAND, start);
            }
            return isIn(value, least, most) || fail(TOO_MUCH, start);
        }

        private void takeToken() {
            start = end;
            while (start < length && isBlank(bytes[start])) {
                start++;
            }
            end = start;
            value = 0;
            if (start >= length) {
                kind = END;
            } else if (isLetter(bytes[start])) {
                kind = WORD;
                for (int shift = 5 * (LONGEST_NAME - 1); end < length && isLetter(bytes[end]); shift -= 5) {
                    value |= shift >= 0 ? bytes[end] - 'a' + 1 << shift : 0;
                    end++;
                }
            } else if (isDigit(bytes[start])) {
                kind = NUMBER;
                while (end < length && isDigit(bytes[end])) {
                    value = Math.min(BEYOND_ALL, value * 10 + (bytes[end] - '0'));
                    end++;
                }
            } else {
                kind = bytes[start] == ';' ? SEMICOLON : NO_TOKEN;
                end++;
            }
        }

        private static boolean isBlank(byte sign) {
            return sign == 10 || sign == 32;
        }

        private static boolean isLetter(byte sign) {
            return sign >= 'a' && sign <= 'z';
        }

        private static boolean isDigit(byte sign) {
            return sign >= '0' && sign <= '9';
        }
    }

    private static final class Asset {
        int owner;
        int nextOwner;
        int use;
        int tax;
        int intervals;
        int quarter;
        /** The KIND by which it is SOLD, LOST; NOT_NOW while it is not. */
        int gone;
        int cap;
        boolean shut;
        int base;
        int first;
        int taken;
        boolean finalBooked;
        int finalAmount;
        /** How many INTERVALS are through: while it is not SHUT, the number of that of this YEAR. */
        int through;
        /** USE in the QUARTERS of this YEAR, as they CLOSED. */
        final int[] uses = new int[QUARTERS_OF_YEAR];
        final int[] worths = new int[MOST_INTERVALS];
        final int[] adjusted = new int[MOST_INTERVALS];
        final int[] owners = new int[MOST_INTERVALS];

        void begin(int trader, int itsUse, int itsTax, int itsIntervals, int itsQuarter) {
            owner = trader;
            nextOwner = trader;
            use = itsUse;
            tax = itsTax;
            intervals = itsIntervals;
            quarter = itsQuarter;
            gone = NOT_NOW;
            cap = NONE;
            shut = false;
            base = 0;
            first = 0;
            taken = 0;
            finalBooked = false;
            finalAmount = 0;
            through = 0;
        }

        void copyFrom(Asset other) {
            owner = other.owner;
            nextOwner = other.nextOwner;
            use = other.use;
            tax = other.tax;
            intervals = other.intervals;
            quarter = other.quarter;
            gone = other.gone;
            cap = other.cap;
            shut = other.shut;
            base = other.base;
            first = other.first;
            taken = other.taken;
            finalBooked = other.finalBooked;
            finalAmount = other.finalAmount;
            through = other.through;
            copyRow(other.uses, uses);
            copyRow(other.worths, worths);
            copyRow(other.adjusted, adjusted);
            copyRow(other.owners, owners);
        }

        /** Neither SHUT nor SOLD, LOST. */
        boolean isFree() {
            return !shut && gone == NOT_NOW;
        }

        boolean usesMayChange() {
            return isFree() && through > 0;
        }

        /** The INTERVALS behind this one, while it is not SHUT. */
        int intervalsBehind() {
            return intervals - 1 - through;
        }

        void endInterval(int worth, int itsAdjusted) {
            if (through < 0 || through >= MOST_INTERVALS) {
                return;
            }
            worths[through] = worth;
            adjusted[through] = itsAdjusted;
            owners[through] = owner;
            taken += itsAdjusted;
            through++;
        }
    }

    /** All that calls change: what is undone, kept as an IMAGE and tried is a copy of it. */
    private static final class Books {
        int now;
        int assetCount;
        int entryCount;
        final int[] ownHeads = new int[MOST_TRADERS];
        final int[] allHeads = new int[MOST_TRADERS];
        final Asset[] assets = new Asset[MOST_ASSETS];
        private final int[] sums = new int[MOST_TRADERS * QUARTERS * SUMS];
        /** FRACTIONS of QUARTERS that are CLOSED and of YEARS that are through stay as they were then. */
        private final int[] provisionals = new int[MOST_TRADERS * QUARTERS];
        private final int[] annuals = new int[MOST_TRADERS * YEARS];
        private final int[] recovereds = new int[MOST_TRADERS * QUARTERS];
        private final int[] totals = new int[MOST_TRADERS * SORTS];
        private final int[] entries = new int[ENTRIES_KEPT * ENTRY_PARTS];

        Books() {
            for (int i = 0; i < MOST_ASSETS; i++) {
                assets[i] = new Asset();
            }
        }

        void clear() {
            now = 0;
            assetCount = 0;
            entryCount = 0;
            clearRow(sums);
            clearRow(provisionals);
            clearRow(annuals);
            clearRow(recovereds);
            clearRow(totals);
        }

        private static void clearRow(int[] row) {
            for (int i = 0; i < row.length; i++) {
                row[i] = 0;
            }
        }

        void copyFrom(Books other) {
            now = other.now;
            assetCount = other.assetCount;
            entryCount = other.entryCount;
            copyRow(other.ownHeads, ownHeads);
            copyRow(other.allHeads, allHeads);
            copyRow(other.sums, sums);
            copyRow(other.provisionals, provisionals);
            copyRow(other.annuals, annuals);
            copyRow(other.recovereds, recovereds);
            copyRow(other.totals, totals);
            copyRow(other.entries, entries);
            for (int i = 0; i < assetCount && i < MOST_ASSETS; i++) {
                assets[i].copyFrom(other.assets[i]);
            }
        }

        int sumOf(int trader, int quarter, int what) {
            return sums[(trader * QUARTERS + quarter) * SUMS + what];
        }

        int addToSum(int trader, int quarter, int what, int amount) {
            int at = (trader * QUARTERS + quarter) * SUMS + what;
            sums[at] += amount;
            return sums[at];
        }

        int recoveredIn(int trader, int quarter) {
            return recovereds[trader * QUARTERS + quarter];
        }

        int recoveredInYear(int trader, int year) {
            int together = 0;
            for (int i = 0; i < QUARTERS_OF_YEAR; i++) {
                together += recovereds[trader * QUARTERS + year * QUARTERS_OF_YEAR + i];
            }
            return together;
        }

        int keptProvisional(int trader, int quarter) {
            return provisionals[trader * QUARTERS + quarter];
        }

        void keepProvisional(int trader, int fraction, int back) {
            provisionals[trader * QUARTERS + now] = fraction;
            recovereds[trader * QUARTERS + now] = back;
        }

        int keptAnnual(int trader, int year) {
            return annuals[trader * YEARS + year];
        }

        void keepAnnual(int trader, int year, int fraction) {
            annuals[trader * YEARS + year] = fraction;
        }

        int totalOf(int trader, int sort) {
            return totals[trader * SORTS + sort];
        }

        void enter(int trader, int sort, int amount, int asset) {
            int at = entryCount % ENTRIES_KEPT * ENTRY_PARTS;
            entries[at] = now;
            entries[at + 1] = trader;
            entries[at + 2] = sort;
            entries[at + 3] = amount;
            entries[at + 4] = asset;
            entryCount++;
            totals[trader * SORTS + sort] += amount;
        }

        /** Of the k-th latest entry, which is one of those kept. */
        int entryPart(int k, int what) {
            return entries[(entryCount - 1 - k) % ENTRIES_KEPT * ENTRY_PARTS + what];
        }

        /** Its number; NOT_NOW if there are eight. */
        int addAsset(int trader, int use, int tax, int intervals) {
            if (assetCount >= MOST_ASSETS) {
                return NOT_NOW;
            }
            assets[assetCount].begin(trader, use, tax, intervals, now);
            addToSum(trader, now, FIRST_TAX + use, tax);
            assetCount++;
            return assetCount - 1;
        }

        int openAssetsOf(int trader) {
            int bits = 0;
            for (int i = 0; i < assetCount && i < MOST_ASSETS; i++) {
                if (!assets[i].shut && assets[i].owner == trader) {
                    bits |= 1 << i;
                }
            }
            return bits;
        }

        int shutAssets() {
            int shut = 0;
            for (int i = 0; i < assetCount && i < MOST_ASSETS; i++) {
                if (assets[i].shut) {
                    shut++;
                }
            }
            return shut;
        }
    }

    /** The books ahead of the latest calls that can be undone, as a ring whose pages are used again. */
    private static final class Past {
        int count;
        private int oldest;
        private final Books[] pages = new Books[MOST_UNDONE];

        void clear() {
            count = 0;
        }

        void add(Books books) {
            int at = (oldest + count) % MOST_UNDONE;
            if (pages[at] == null) {
                pages[at] = new Books();
            }
            pages[at].copyFrom(books);
            if (count < MOST_UNDONE) {
                count++;
            } else {
                oldest = (oldest + 1) % MOST_UNDONE;
            }
        }

        boolean bringBack(Books books) {
            if (count == 0) {
                return false;
            }
            int at = (oldest + count - 1) % MOST_UNDONE;
            if (pages[at] == null) {
                return false;
            }
            books.copyFrom(pages[at]);
            count--;
            return true;
        }
    }

    /** The sums of some QUARTERS and the rules to look at them by; either may be changed to ask "what if". */
    private static final class Reckoning {
        final long[] sums = new long[SUMS];
        int ownHeads;
        int allHeads;
        int way;
        int method;
        int step;
        int limit;

        int fraction() {
            if (method == BY_SALES) {
                return fractionOf(sums[0], sums[0] + sums[1]);
            }
            if (method == BY_TAX) {
                return fractionOf(sums[FIRST_TAX], sums[FIRST_TAX] + sums[FIRST_TAX + 1]);
            }
            return fractionOf(ownHeads, allHeads);
        }

        int fractionWithSales(int more) {
            return fractionOf(sums[0] + more, sums[0] + more + sums[1]);
        }

        private int fractionOf(long own, long all) {
            return all == 0 ? step : (int) cut(step * own, all, way);
        }

        private long allTax() {
            return sums[FIRST_TAX] + sums[FIRST_TAX + 1] + sums[FIRST_TAX + 2];
        }

        private long leftBy(int fraction) {
            long both = sums[FIRST_TAX + 2];
            return sums[FIRST_TAX + 1] + both - cut(both * fraction, step, way);
        }

        private boolean isSmallLeft(long left) {
            return left <= limit && 2 * left <= allTax();
        }

        boolean isSmall(int fraction) {
            return isSmallLeft(leftBy(fraction));
        }

        int backBy(int fraction) {
            long left = leftBy(fraction);
            return (int) (isSmallLeft(left) ? allTax() : allTax() - left);
        }

        /** The least limit by which it is SMALL; NOT_NOW: by none. */
        int leastLimit(int fraction) {
            long left = leftBy(fraction);
            return 2 * left <= allTax() ? (int) left : NOT_NOW;
        }
    }

    /** Keeps books by rules. */
    private static final class Clerk {
        Rules rules = new Rules();
        final Books books = new Books();
        private final Reckoning reckoning = new Reckoning();

        void open(Rules told) {
            rules = told;
            books.clear();
            copyRow(told.ownHeads, books.ownHeads);
            copyRow(told.allHeads, books.allHeads);
            bringTold();
        }

        void imitate(Clerk other) {
            rules = other.rules;
            books.copyFrom(other.books);
        }

        int thisYear() {
            return books.now / QUARTERS_OF_YEAR;
        }

        /** What is told of the QUARTER that has just become NOW. */
        private void bringTold() {
            for (int i = 0; i < rules.saleCount + rules.buyCount; i++) {
                int at = i * Rules.MOVE_PARTS;
                if (rules.moves[at + 1] == books.now) {
                    books.addToSum(rules.moves[at], books.now, rules.moves[at + 2], rules.moves[at + 3]);
                }
            }
            for (int i = 0; i < rules.assetCount; i++) {
                int at = i * Rules.ASSET_PARTS;
                if (rules.assets[at + 1] == books.now) {
                    books.addAsset(rules.assets[at], rules.assets[at + 2], rules.assets[at + 3],
                            rules.assets[at + 4]);
                }
            }
        }

        /** By the rules told, HEADS as they are now, no sums yet. */
        private void beginReckoning(int trader) {
            reckoning.way = rules.way;
            reckoning.method = rules.methods[trader];
            reckoning.step = rules.step;
            reckoning.limit = rules.limit;
            reckoning.ownHeads = books.ownHeads[trader];
            reckoning.allHeads = books.allHeads[trader];
            for (int what = 0; what < SUMS; what++) {
                reckoning.sums[what] = 0;
            }
        }

        private void addQuarters(int trader, int first, int howMany) {
            for (int quarter = first; quarter < first + howMany; quarter++) {
                for (int what = 0; what < SUMS; what++) {
                    reckoning.sums[what] += books.sumOf(trader, quarter, what);
                }
            }
        }

        /** The same object as each reckoning ahead. */
        Reckoning ofQuarter(int trader, int quarter) {
            beginReckoning(trader);
            addQuarters(trader, quarter, 1);
            reckoning.limit = rules.limit / QUARTERS_OF_YEAR;
            return reckoning;
        }

        /** The same object as each reckoning ahead. */
        Reckoning ofYear(int trader, int year) {
            beginReckoning(trader);
            addQuarters(trader, year * QUARTERS_OF_YEAR, QUARTERS_OF_YEAR);
            return reckoning;
        }

        /** Joins another TRADER to the reckoning of a YEAR. */
        void joinYear(int trader, int year) {
            addQuarters(trader, year * QUARTERS_OF_YEAR, QUARTERS_OF_YEAR);
            reckoning.ownHeads += books.ownHeads[trader];
            reckoning.allHeads += books.allHeads[trader];
        }

        /** ANNUAL of a YEAR that is through, AS IT STANDS of this one. */
        int annualFraction(int trader, int year) {
            if (year < thisYear()) {
                return books.keptAnnual(trader, year);
            }
            return ofYear(trader, year).fraction();
        }

        int yearBack(int trader, int year) {
            int fraction = annualFraction(trader, year);
            return ofYear(trader, year).backBy(fraction);
        }

        int trued(int trader, int year) {
            return yearBack(trader, year) - books.recoveredInYear(trader, year);
        }

        /** PROVISIONAL by a BASIS of a QUARTER up to NOW, by sums and HEADS as they are now. */
        int fractionByBasis(int trader, int quarter, int basis) {
            int year = quarter / QUARTERS_OF_YEAR;
            if (basis == 1 && year > 0) {
                return books.keptAnnual(trader, year - 1);
            }
            if (basis == 1 && rules.starts[trader] != NOT_NOW) {
                return Math.min(rules.starts[trader], rules.step);
            }
            return ofQuarter(trader, quarter).fraction();
        }

        void endQuarter() {
            if (books.now >= QUARTERS - 1) {
                return;
            }
            for (int trader = 0; trader < rules.traders; trader++) {
                int fraction = fractionByBasis(trader, books.now, rules.bases[trader]);
                int back = ofQuarter(trader, books.now).backBy(fraction);
                books.keepProvisional(trader, fraction, back);
                books.enter(trader, PROVISIONAL_SORT, back, NOT_NOW);
            }
            int place = books.now % QUARTERS_OF_YEAR;
            for (int i = 0; i < books.assetCount; i++) {
                books.assets[i].uses[place] = books.assets[i].use;
            }
            if (place == QUARTERS_OF_YEAR - 1) {
                endYear();
            }
            books.now++;
            bringTold();
        }

        private void endYear() {
            int year = thisYear();
            for (int trader = 0; trader < rules.traders; trader++) {
                Reckoning r = ofYear(trader, year);
                int fraction = r.fraction();
                int back = r.backBy(fraction);
                books.keepAnnual(trader, year, fraction);
                books.enter(trader, TRUED_SORT, back - books.recoveredInYear(trader, year), NOT_NOW);
            }
            for (int i = 0; i < books.assetCount; i++) {
                if (!books.assets[i].shut) {
                    endInterval(i, year);
                }
            }
        }

        private void endInterval(int number, int year) {
            Asset a = books.assets[number];
            int worth = worthBy(a, a.use, books.keptAnnual(a.owner, year));
            if (a.through == 0) {
                a.base = worth;
                a.first = firstBy(a, worth);
                a.taken = a.first;
                a.endInterval(worth, 0);
            } else {
                int adjusted = adjustedBy(a, worth, a.base);
                books.enter(a.owner, ADJUSTED_SORT, adjusted, number);
                a.endInterval(worth, adjusted);
            }
            if (a.gone == SOLD_TAXABLE || a.gone == SOLD_EXEMPT) {
                bookFinal(a, number);
            }
            a.shut = a.gone != NOT_NOW || a.through == a.intervals;
            a.owner = a.nextOwner;
        }

        /** The INTERVAL of this YEAR is counted as through by then. */
        private void bookFinal(Asset a, int number) {
            int amount = finalFor(a, a.gone, a.intervals - a.through, a.base);
            if (a.cap != NONE) {
                amount = Math.min(amount, a.cap);
            }
            a.finalBooked = true;
            a.finalAmount = amount;
            a.taken += amount;
            books.enter(a.owner, FINAL_SORT, amount, number);
        }

        /** WORTH AS IT STANDS, if USE is such in the QUARTERS that are not CLOSED yet. */
        int worthNow(Asset a, int use) {
            return worthBy(a, use, annualFraction(a.owner, thisYear()));
        }

        private int worthBy(Asset a, int use, int annual) {
            if (a.through == 0) {
                return quarterWorth(use, annual);
            }
            int four = 0;
            for (int i = 0; i < QUARTERS_OF_YEAR; i++) {
                boolean ended = i < books.now % QUARTERS_OF_YEAR;
                four += quarterWorth(ended ? a.uses[i] : use, annual);
            }
            return (int) cut(four, QUARTERS_OF_YEAR, rules.way);
        }

        private int quarterWorth(int use, int annual) {
            if (use == FOR_TAXABLE) {
                return rules.step;
            }
            return use == FOR_EXEMPT ? 0 : annual;
        }

        int baseNow(Asset a) {
            return a.through > 0 ? a.base : worthNow(a, a.use);
        }

        int firstBy(Asset a, int base) {
            return (int) cut((long) a.tax * base, rules.step, rules.way);
        }

        int adjustedBy(Asset a, int worth, int base) {
            return (int) cut((long) a.tax * (worth - base), (long) a.intervals * rules.step, rules.way);
        }

        /** FINAL without a CAP. */
        int finalFor(Asset a, int kind, int behind, int base) {
            int goal = kind == SOLD_TAXABLE ? rules.step : 0;
            return (int) cut((long) a.tax * behind * (goal - base), (long) a.intervals * rules.step, rules.way);
        }
    }
}
