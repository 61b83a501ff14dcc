import java.math.BigInteger;
import java.util.ArrayList;
import java.util.HashSet;
import java.util.List;
import java.util.Set;

/**
 * The document once more, told another way: a list of acts that is played again from the TEXT on for each
 * question, whole lists of entries that are searched, exact quotients. Slow, and only for the tests.
 */
final class Model {
    static final int NO = -999999;
    private static final BigInteger TWO = BigInteger.valueOf(2);

    /** What a TEXT tells. */
    static final class Told {
        final List<String> names = new ArrayList<>();
        final List<int[]> traders = new ArrayList<>();
        final List<int[]> heads = new ArrayList<>();
        final List<Integer> starts = new ArrayList<>();
        final List<int[]> sales = new ArrayList<>();
        final List<int[]> buys = new ArrayList<>();
        final List<int[]> assets = new ArrayList<>();
        String way;
        Integer step;
        Integer limit;
        Integer seed;
        int lines;
        int fault;
        int place = -1;

        int step() {
            return step == null ? 100 : step;
        }

        int limit() {
            return limit == null ? 0 : limit;
        }

        int way() {
            return way == null || way.equals("down") ? 0 : way.equals("up") ? 1 : 2;
        }
    }

    static final class Thing {
        int owner;
        int next;
        int use;
        int tax;
        int intervals;
        int quarter;
        int kind = -2;
        int cap;
        int shutInYear = -1;
        final List<int[]> through = new ArrayList<>();
        final int[] useAt = new int[64];
    }

    /** All that acts change. */
    static final class World {
        int now;
        final int[][][] sums = new int[4][64][5];
        final int[][][] sumsAsClosed = new int[4][64][];
        final int[][][] headsAsClosed = new int[4][64][];
        final int[][] heads = new int[4][];
        final List<int[]> entries = new ArrayList<>();
        final List<Thing> things = new ArrayList<>();
    }

    private Told told = new Told();
    private List<int[]> acts = new ArrayList<>();
    private List<int[]> imageActs;
    private int undoable;
    private World w = play(acts);
    private Told read = new Told();
    private final StringBuilder tape = new StringBuilder();

    // ---- the text

    int feed(int a, int b, int c, int d, int e) {
        if (tape.length() == 700) {
            return -1;
        }
        for (int number : new int[] {a, b, c, d, e}) {
            for (int i = 3; i >= 0; i--) {
                tape.append((char) (number >>> 8 * i & 255));
            }
        }
        return tape.length();
    }

    int text(int n) {
        if (n < 0 || n > tape.length()) {
            return -2;
        }
        read = ModelText.parse(tape.substring(0, n));
        tape.setLength(0);
        if (read.fault != 0) {
            return -1;
        }
        told = read;
        acts = new ArrayList<>();
        imageActs = null;
        undoable = 0;
        w = play(acts);
        return told.lines;
    }

    int fault(int what) {
        return what == 0 ? read.fault : what == 1 ? read.place : -1;
    }

    int named(int letters) {
        for (int i = 0; i < told.names.size(); i++) {
            if (Check.packed(told.names.get(i)) == letters) {
                return i;
            }
        }
        return -1;
    }

    // ---- playing acts

    private World play(List<int[]> list) {
        World world = new World();
        w = world;
        for (int t = 0; t < told.names.size(); t++) {
            world.heads[t] = told.heads.get(t) == null ? new int[2] : told.heads.get(t).clone();
        }
        arrive();
        for (int[] act : list) {
            perform(act);
        }
        return world;
    }

    private void arrive() {
        for (int[] sale : told.sales) {
            if (sale[1] == w.now) {
                w.sums[sale[0]][w.now][sale[2]] += sale[3];
            }
        }
        for (int[] buy : told.buys) {
            if (buy[1] == w.now) {
                w.sums[buy[0]][w.now][2 + buy[2]] += buy[3];
            }
        }
        for (int[] a : told.assets) {
            if (a[1] == w.now && w.things.size() < 8) {
                purchase(a[0], a[2], a[3], a[4]);
            }
        }
    }

    private void purchase(int trader, int use, int tax, int intervals) {
        Thing t = new Thing();
        t.owner = trader;
        t.next = trader;
        t.use = use;
        t.tax = tax;
        t.intervals = intervals;
        t.quarter = w.now;
        w.things.add(t);
        w.sums[trader][w.now][2 + use] += tax;
    }

    private void perform(int[] act) {
        switch (act[0]) {
            case 0: w.sums[act[1]][act[2]][act[3]] += act[4]; break;
            case 1: w.heads[act[1]] = new int[] {act[2], act[3]}; break;
            case 2: purchase(act[1], act[2], act[3], act[4]); break;
            case 3: w.things.get(act[1]).use = act[2]; break;
            case 4: w.things.get(act[1]).kind = act[2]; w.things.get(act[1]).cap = act[3]; break;
            case 5: w.things.get(act[1]).next = act[2]; break;
            default:
                for (int i = 0; i < act[1]; i++) {
                    closeOne();
                }
        }
    }

    private void act(int... act) {
        acts.add(act);
        undoable = Math.min(20, undoable + 1);
        perform(act);
    }

    private void enter(int trader, int sort, int amount, int asset) {
        w.entries.add(new int[] {w.now, trader, sort, amount, asset});
    }

    private void closeOne() {
        int q = w.now;
        int y = q / 4;
        int traders = told.names.size();
        for (int t = 0; t < traders; t++) {
            enter(t, 0, back(w.sums[t][q], provisional(t, q), told.way(), told.step(), told.limit() / 4), -2);
        }
        for (int t = 0; t < traders; t++) {
            w.sumsAsClosed[t][q] = w.sums[t][q].clone();
            w.headsAsClosed[t][q] = w.heads[t].clone();
        }
        for (Thing thing : w.things) {
            thing.useAt[q] = thing.use;
        }
        if (q % 4 == 3) {
            for (int t = 0; t < traders; t++) {
                int whole = back(yearSums(t, y), annualFraction(t, y), told.way(), told.step(), told.limit());
                enter(t, 1, whole - recoveredIn(t, y), -2);
            }
            for (int i = 0; i < w.things.size(); i++) {
                if (w.things.get(i).shutInYear < 0) {
                    endYearOf(w.things.get(i), i, y);
                }
            }
            for (Thing thing : w.things) {
                thing.owner = thing.next;
            }
        }
        w.now++;
        arrive();
    }

    private void endYearOf(Thing t, int number, int year) {
        int i = year - t.quarter / 4;
        int worth = worthIn(t, year, -1);
        t.through.add(new int[] {year, worth, t.owner});
        if (i > 0) {
            enter(t.owner, 2, adjusted(t, worth, base(t)), number);
        }
        if (t.kind == 0 || t.kind == 1) {
            int amount = finalBy(t, t.kind, t.intervals - 1 - i, base(t));
            enter(t.owner, 3, t.cap == -1 || amount < t.cap ? amount : t.cap, number);
        }
        if (t.kind != -2 || i == t.intervals - 1) {
            t.shutInYear = year;
        }
    }

    // ---- reckoning

    static int cut(BigInteger a, BigInteger b, int way) {
        BigInteger[] parts = a.divideAndRemainder(b);
        BigInteger floor = parts[1].signum() < 0 ? parts[0].subtract(BigInteger.ONE) : parts[0];
        BigInteger rest = a.subtract(floor.multiply(b));
        boolean higher = way == 1 ? rest.signum() > 0 : way == 2 && rest.multiply(TWO).compareTo(b) >= 0;
        return (higher ? floor.add(BigInteger.ONE) : floor).intValueExact();
    }

    static int cut(int way, long below, long... factors) {
        BigInteger a = BigInteger.ONE;
        for (long factor : factors) {
            a = a.multiply(BigInteger.valueOf(factor));
        }
        return cut(a, BigInteger.valueOf(below), way);
    }

    private static int fraction(int[] sums, int[] heads, int method, int way, int step) {
        long own = method == 0 ? sums[0] : method == 1 ? sums[2] : heads[0];
        long all = method == 0 ? sums[0] + sums[1] : method == 1 ? sums[2] + sums[3] : heads[1];
        return all == 0 ? step : cut(way, all, step, own);
    }

    private static int left(int[] sums, int fraction, int way, int step) {
        return sums[3] + sums[4] - cut(way, step, sums[4], fraction);
    }

    private static boolean small(int[] sums, int fraction, int way, int step, int limit) {
        int left = left(sums, fraction, way, step);
        return left <= limit && 2 * left <= sums[2] + sums[3] + sums[4];
    }

    private static int back(int[] sums, int fraction, int way, int step, int limit) {
        int all = sums[2] + sums[3] + sums[4];
        return small(sums, fraction, way, step, limit) ? all : all - left(sums, fraction, way, step);
    }

    private int[] yearSums(int trader, int year) {
        int[] sums = new int[5];
        for (int q = 4 * year; q < 4 * year + 4; q++) {
            for (int i = 0; i < 5; i++) {
                sums[i] += w.sums[trader][q][i];
            }
        }
        return sums;
    }

    private int[] headsOf(int trader, int quarter) {
        int[] closed = w.headsAsClosed[trader][quarter];
        return closed == null ? w.heads[trader] : closed;
    }

    private int method(int trader) {
        return told.traders.get(trader)[0];
    }

    private int annualFraction(int trader, int year) {
        return fraction(yearSums(trader, year), headsOf(trader, 4 * year + 3), method(trader), told.way(), told.step());
    }

    private int yearBack(int trader, int year) {
        return back(yearSums(trader, year), annualFraction(trader, year), told.way(), told.step(), told.limit());
    }

    private int fractionByBasis(int basis, int trader, int quarter, int[] sums, int[] heads) {
        if (basis == 1 && quarter >= 4) {
            return annualFraction(trader, quarter / 4 - 1);
        }
        Integer start = told.starts.get(trader);
        if (basis == 1 && start != null) {
            return start > told.step() ? told.step() : start;
        }
        return fraction(sums, heads, method(trader), told.way(), told.step());
    }

    private int recoveredIn(int trader, int year) {
        int sum = 0;
        for (int[] e : w.entries) {
            sum += e[1] == trader && e[2] == 0 && e[0] / 4 == year ? e[3] : 0;
        }
        return sum;
    }

    private int year() {
        return w.now / 4;
    }

    private int base(Thing t) {
        return t.through.isEmpty() ? worthIn(t, year(), -1) : t.through.get(0)[1];
    }

    /** useInstead: of QUARTERS not CLOSED; -1: USE as it is. */
    private int worthIn(Thing t, int year, int useInstead) {
        int four = 0;
        for (int q = 4 * year; q < 4 * year + 4; q++) {
            int use = useInstead < 0 ? t.use : useInstead;
            if (q < w.now && q >= t.quarter) {
                use = t.useAt[q];
            }
            four += use == 0 ? told.step() : use == 1 ? 0 : annualFraction(t.owner, year);
        }
        return cut(told.way(), 4, four);
    }

    private int adjusted(Thing t, int worth, int base) {
        return cut(told.way(), (long) t.intervals * told.step(), t.tax, worth - base);
    }

    private int finalBy(Thing t, int kind, int behind, int base) {
        int goal = kind == 0 ? told.step() : 0;
        return cut(told.way(), (long) t.intervals * told.step(), t.tax, behind, goal - base);
    }

    private int takenBy(int asset) {
        Thing t = w.things.get(asset);
        int sum = t.through.isEmpty() ? 0 : cut(told.way(), told.step(), t.tax, base(t));
        for (int[] e : w.entries) {
            sum += e[4] == asset ? e[3] : 0;
        }
        return sum;
    }

    // ---- who and what there is

    private boolean isTrader(int trader) {
        return trader >= 0 && trader < told.names.size();
    }

    private boolean isAsset(int asset) {
        return asset >= 0 && asset < w.things.size();
    }

    private boolean free(int asset) {
        Thing t = w.things.get(asset);
        return t.shutInYear < 0 && t.kind == -2;
    }

    private boolean begun(int year) {
        return year >= 0 && year <= year();
    }

    private static boolean in(int n, int a, int b) {
        return n >= a && n <= b;
    }

    // ---- the calls

    /** IndexOutOfBoundsException is Integer.MIN_VALUE, NoSuchElementException one more. */
    int trader(int trader, int what) {
        if (!isTrader(trader)) {
            return Integer.MIN_VALUE;
        }
        if (!in(what, 0, 5)) {
            return Integer.MIN_VALUE + 1;
        }
        if (what < 2) {
            return told.traders.get(trader)[what];
        }
        if (what < 4) {
            return w.heads[trader][what - 2];
        }
        if (what == 4) {
            return told.starts.get(trader) == null ? -2 : told.starts.get(trader);
        }
        int bits = 0;
        for (int i = 0; i < w.things.size(); i++) {
            bits += w.things.get(i).owner == trader && w.things.get(i).shutInYear < 0 ? 1 << i : 0;
        }
        return bits;
    }

    int asset(int asset, int what) {
        if (!isAsset(asset) || !in(what, 0, 9)) {
            return -1;
        }
        Thing t = w.things.get(asset);
        boolean known = !t.through.isEmpty();
        return new int[] {t.owner, t.use, t.tax, t.intervals, t.quarter, known ? base(t) : -2, t.kind,
            t.shutInYear < 0 ? 0 : 1, t.next, known ? cut(told.way(), told.step(), t.tax, base(t)) : -2}[what];
    }

    int sale(int trader, int kind, int amount) {
        if (!isTrader(trader) || !in(kind, 0, 1) || !in(amount, 1, 99999)) {
            return -1;
        }
        act(0, trader, w.now, kind, amount);
        return w.sums[trader][w.now][kind];
    }

    int buy(int trader, int kind, int tax) {
        if (!isTrader(trader) || !in(kind, 0, 2) || !in(tax, 1, 9999)) {
            return -1;
        }
        act(0, trader, w.now, 2 + kind, tax);
        return w.sums[trader][w.now][2 + kind];
    }

    int late(int trader, int quarter, int what, int amount) {
        if (!isTrader(trader) || quarter < 0 || quarter >= w.now || quarter / 4 != year() || !in(what, 0, 4)
                || !in(amount, 1, 9999)) {
            return -1;
        }
        act(0, trader, quarter, what, amount);
        return w.sums[trader][quarter][what];
    }

    int heads(int trader, int own, int all) {
        if (!isTrader(trader) || !in(all, 0, 999) || !in(own, 0, all)) {
            return 0;
        }
        act(1, trader, own, all);
        return 1;
    }

    int acquire(int trader, int use, int tax, int intervals) {
        if (!isTrader(trader) || !in(use, 0, 2) || !in(tax, 1, 99999) || intervals != 5 && intervals != 10) {
            return -1;
        }
        if (w.things.size() == 8) {
            return -2;
        }
        act(2, trader, use, tax, intervals);
        return w.things.size() - 1;
    }

    int use(int asset, int use) {
        if (!isAsset(asset) || !in(use, 0, 2) || !free(asset) || w.things.get(asset).quarter / 4 == year()) {
            return 0;
        }
        act(3, asset, use);
        return 1;
    }

    int sell(int asset, int kind, int cap) {
        if (!isAsset(asset) || !in(kind, 0, 2) || !in(cap, -1, 99999) || kind == 2 && cap != -1) {
            return -1;
        }
        if (!free(asset)) {
            return -2;
        }
        act(4, asset, kind, cap);
        return behind(w.things.get(asset));
    }

    private int behind(Thing t) {
        return t.quarter / 4 + t.intervals - 1 - year();
    }

    int hand(int asset, int trader) {
        if (!isAsset(asset) || !isTrader(trader)) {
            return -1;
        }
        if (!free(asset)) {
            return -2;
        }
        int was = w.things.get(asset).next;
        act(5, asset, trader);
        return was;
    }

    int close(int n) {
        if (!in(n, 1, 16)) {
            return -1;
        }
        if (w.now + n - 1 >= 63) {
            return -2;
        }
        int was = w.entries.size();
        act(6, n);
        return w.entries.size() - was;
    }

    int sum(int trader, int quarter, int what) {
        return isTrader(trader) && in(quarter, 0, 63) && in(what, 0, 4) ? w.sums[trader][quarter][what] : -1;
    }

    int provisional(int trader, int quarter) {
        if (!isTrader(trader) || !in(quarter, 0, 63)) {
            return -1;
        }
        if (quarter > w.now) {
            return -2;
        }
        int[] closed = w.sumsAsClosed[trader][quarter];
        return fractionByBasis(told.traders.get(trader)[1], trader, quarter,
            closed == null ? w.sums[trader][quarter] : closed, headsOf(trader, quarter));
    }

    int recovered(int trader, int quarter) {
        if (!isTrader(trader) || !in(quarter, 0, 63)) {
            return -1;
        }
        for (int[] e : w.entries) {
            if (e[0] == quarter && e[1] == trader && e[2] == 0) {
                return e[3];
            }
        }
        return -2;
    }

    int annual(int trader, int year, int what) {
        if (!isTrader(trader) || !begun(year) || !in(what, 0, 3)) {
            return NO;
        }
        int f = annualFraction(trader, year);
        boolean small = small(yearSums(trader, year), f, told.way(), told.step(), told.limit());
        int back = yearBack(trader, year);
        return new int[] {f, back, small ? 1 : 0, back - recoveredIn(trader, year)}[what];
    }

    int interval(int asset, int i, int what) {
        if (!isAsset(asset) || !in(what, 0, 3) || !in(i, 0, w.things.get(asset).through.size() - 1)) {
            return NO;
        }
        int[] row = w.things.get(asset).through.get(i);
        if (what != 2) {
            return row[what == 3 ? 2 : what];
        }
        int sum = 0;
        for (int[] e : w.entries) {
            sum += e[4] == asset && e[2] == 2 && e[0] / 4 == row[0] ? e[3] : 0;
        }
        return sum;
    }

    int taken(int asset) {
        return isAsset(asset) ? takenBy(asset) : NO;
    }

    int last(int asset) {
        for (int[] e : w.entries) {
            if (e[4] == asset && asset >= 0 && e[2] == 3) {
                return e[3];
            }
        }
        return NO;
    }

    int booked(int k, int what) {
        int size = w.entries.size();
        return in(k, 0, Math.min(size, 40) - 1) && in(what, 0, 4) ? w.entries.get(size - 1 - k)[what] : NO;
    }

    int total(int trader, int sort) {
        if (!isTrader(trader) || !in(sort, 0, 3)) {
            return NO;
        }
        int sum = 0;
        for (int[] e : w.entries) {
            sum += e[1] == trader && e[2] == sort ? e[3] : 0;
        }
        return sum;
    }

    private int backBy(int trader, int year, int way, int method, int step) {
        int[] sums = yearSums(trader, year);
        return back(sums, fraction(sums, w.heads[trader], method, way, step), way, step, told.limit());
    }

    int by(int trader, int year, int way, int method, int step) {
        if (!isTrader(trader) || !begun(year) || !in(way, 0, 2) || !in(method, 0, 2) || !in(step, 10, 1000)) {
            return NO;
        }
        return backBy(trader, year, way, method, step);
    }

    private int unknownYear(boolean known, int year) {
        return !known || !in(year, 0, 15) ? -1 : begun(year) ? 0 : -2;
    }

    int bestMethod(int trader, int year) {
        int no = unknownYear(isTrader(trader), year);
        int best = 2;
        for (int m = 1; no == 0 && m >= 0; m--) {
            if (backBy(trader, year, told.way(), m, told.step()) >= backBy(trader, year, told.way(), best, told.step())) {
                best = m;
            }
        }
        return no < 0 ? no : best;
    }

    int bestStep(int trader, int year) {
        int no = unknownYear(isTrader(trader), year);
        int best = 1000;
        for (int s = 999; no == 0 && s >= 10; s--) {
            if (backBy(trader, year, told.way(), method(trader), s)
                    >= backBy(trader, year, told.way(), method(trader), best)) {
                best = s;
            }
        }
        return no < 0 ? no : best;
    }

    int joint(int one, int other, int year) {
        if (!isTrader(one) || !isTrader(other) || one == other || !begun(year)) {
            return NO;
        }
        int[] sums = yearSums(one, year);
        int[] more = yearSums(other, year);
        for (int i = 0; i < 5; i++) {
            sums[i] += more[i];
        }
        int[] heads = {w.heads[one][0] + w.heads[other][0], w.heads[one][1] + w.heads[other][1]};
        return back(sums, fraction(sums, heads, method(one), told.way(), told.step()), told.way(), told.step(),
            told.limit());
    }

    int limitFor(int trader, int year) {
        int no = unknownYear(isTrader(trader), year);
        if (no < 0) {
            return no;
        }
        int[] sums = yearSums(trader, year);
        int f = annualFraction(trader, year);
        int left = left(sums, f, told.way(), told.step());
        return small(sums, f, told.way(), told.step(), left) ? left : -2;
    }

    int byBasis(int trader, int quarter, int basis) {
        if (!isTrader(trader) || !in(quarter, 0, w.now - 1) || !in(basis, 0, 1)) {
            return NO;
        }
        int[] sums = w.sums[trader][quarter];
        int f = fractionByBasis(basis, trader, quarter, sums, w.heads[trader]);
        return back(sums, f, told.way(), told.step(), told.limit() / 4);
    }

    int leader(int year) {
        int no = unknownYear(true, year);
        int best = -2;
        for (int t = told.names.size() - 1; no == 0 && t >= 0; t--) {
            if (best < 0 || yearBack(t, year) >= yearBack(best, year)) {
                best = t;
            }
        }
        return no < 0 ? no : best;
    }

    int rise(int trader) {
        if (!isTrader(trader)) {
            return -1;
        }
        int most = 0;
        for (int from = 0; from < w.now; from++) {
            int to = from;
            while (to + 1 < w.now && recovered(trader, to + 1) > recovered(trader, to)) {
                to++;
            }
            most = Math.max(most, to - from + 1);
        }
        return most;
    }

    int need(int trader, int fraction) {
        if (!isTrader(trader) || !in(fraction, 0, told.step())) {
            return -1;
        }
        if (method(trader) != 0) {
            return -2;
        }
        int[] sums = yearSums(trader, year());
        int have = sums[0];
        int more = 0;
        for (int jump = 1 << 26; jump > 0; jump /= 2) {
            sums[0] = have + more + jump - 1;
            if (fraction(sums, null, 0, told.way(), told.step()) < fraction) {
                more += jump;
            }
        }
        return more > 99999999 ? -2 : more;
    }

    int room(int trader, int kind) {
        if (!isTrader(trader) || !in(kind, 0, 2)) {
            return -1;
        }
        int[] sums = yearSums(trader, year());
        for (int more = 0; more <= 9999; more++) {
            int f = fraction(sums, w.heads[trader], method(trader), told.way(), told.step());
            if (!small(sums, f, told.way(), told.step(), told.limit())) {
                return more == 0 ? -2 : more - 1;
            }
            sums[2 + kind]++;
        }
        return 9999;
    }

    int would(int asset, int kind) {
        if (!isAsset(asset) || !free(asset) || !in(kind, 0, 1)) {
            return NO;
        }
        Thing t = w.things.get(asset);
        return finalBy(t, kind, behind(t), base(t));
    }

    int bestWait(int asset, int kind) {
        if (!isAsset(asset) || !in(kind, 0, 1)) {
            return -1;
        }
        if (!free(asset)) {
            return -2;
        }
        Thing t = w.things.get(asset);
        long most = Long.MIN_VALUE;
        int best = 0;
        for (int wait = 0; wait <= behind(t); wait++) {
            long sum = finalBy(t, kind, behind(t) - wait, base(t));
            for (int y = year(); y <= year() + wait; y++) {
                sum += y == t.quarter / 4 ? 0 : adjusted(t, worthIn(t, year(), -1), base(t));
            }
            if (sum > most) {
                most = sum;
                best = wait;
            }
        }
        return best;
    }

    int project(int asset, int n) {
        if (!isAsset(asset) || !free(asset) || !in(n, 1, behind(w.things.get(asset)) + 1)) {
            return NO;
        }
        Thing t = w.things.get(asset);
        int sum = takenBy(asset);
        for (int y = year(); y < year() + n; y++) {
            sum += y == t.quarter / 4 ? cut(told.way(), told.step(), t.tax, base(t))
                : adjusted(t, worthIn(t, year(), -1), base(t));
        }
        return sum;
    }

    int ifUse(int asset, int use) {
        if (!isAsset(asset) || !free(asset) || !in(use, 0, 2) || w.things.get(asset).through.isEmpty()) {
            return NO;
        }
        return worthIn(w.things.get(asset), year(), use);
    }

    int owners(int asset) {
        if (!isAsset(asset)) {
            return -1;
        }
        Thing t = w.things.get(asset);
        Set<Integer> all = new HashSet<>();
        for (int[] row : t.through) {
            all.add(row[2]);
        }
        if (t.shutInYear < 0) {
            all.add(t.owner);
        }
        return all.size();
    }

    int even(int asset, int m) {
        if (!isAsset(asset) || !in(m, -99999, 99999)) {
            return -1;
        }
        Thing t = w.things.get(asset);
        if (t.through.isEmpty()) {
            return -3;
        }
        int best = -2;
        for (int worth = told.step(); worth >= 0 && adjusted(t, worth, base(t)) >= m; worth--) {
            best = worth;
        }
        return best;
    }

    int worth(int asset) {
        if (!isAsset(asset)) {
            return -1;
        }
        return w.things.get(asset).shutInYear >= 0 ? -2 : worthIn(w.things.get(asset), year(), -1);
    }

    private int totals(int trader, int sort) {
        int sum = 0;
        for (int s = 0; s < 4; s++) {
            sum += sort < 0 || s == sort ? total(trader, s) : 0;
        }
        return sum;
    }

    /** All that another end of the acts books for a TRADER of a SORT (below 0: of all). */
    private int more(List<int[]> then, int trader, int sort) {
        World mine = w;
        List<int[]> list = new ArrayList<>(acts);
        list.addAll(then);
        int was = totals(trader, sort);
        play(list);
        int more = totals(trader, sort) - was;
        w = mine;
        return more;
    }

    int tried(int n, int trader, int sort) {
        if (!in(n, 1, 16) || w.now + n > 63 || !isTrader(trader) || !in(sort, 0, 3)) {
            return NO;
        }
        List<int[]> then = new ArrayList<>();
        then.add(new int[] {6, n});
        return more(then, trader, sort);
    }

    int chance(int seed, int n, int trader) {
        if (seed < -1 || !in(n, 1, 8) || w.now + n > 63 || !isTrader(trader)) {
            return NO;
        }
        List<int[]> then = new ArrayList<>();
        BigInteger number = BigInteger.valueOf(seed >= 0 ? seed : told.seed == null ? 0 : told.seed);
        for (int i = 0; i < 2 * n; i++) {
            number = number.multiply(BigInteger.valueOf(1103515245)).add(BigInteger.valueOf(12345))
                .mod(TWO.pow(31));
            int drawn = number.divide(TWO.pow(16)).mod(BigInteger.valueOf(1000)).intValue();
            then.add(new int[] {0, trader, w.now + i / 2, i % 2, drawn});
            if (i % 2 == 1) {
                then.add(new int[] {6, 1});
            }
        }
        return more(then, trader, -1);
    }

    int farthest(int trader) {
        if (!isTrader(trader)) {
            return -1;
        }
        int best = -2;
        int most = -1;
        for (int[] e : w.entries) {
            if (e[1] == trader && e[2] == 1 && Math.abs(e[3]) > most) {
                most = Math.abs(e[3]);
                best = e[0] / 4;
            }
        }
        return best;
    }

    int undo() {
        if (undoable == 0) {
            return -1;
        }
        acts.remove(acts.size() - 1);
        w = play(acts);
        undoable--;
        return undoable;
    }

    int keep() {
        imageActs = new ArrayList<>(acts);
        return w.now;
    }

    int back() {
        if (imageActs == null) {
            return -1;
        }
        acts = new ArrayList<>(imageActs);
        w = play(acts);
        undoable = 0;
        return w.now;
    }

    int count(int what) {
        int shut = 0;
        for (Thing t : w.things) {
            shut += t.shutInYear < 0 ? 0 : 1;
        }
        int[] counts = {told.names.size(), w.now, w.things.size(), shut, w.entries.size(), told.step(), told.way(),
            told.limit(), told.sales.size(), told.buys.size(), undoable, tape.length(), told.assets.size()};
        return in(what, 0, 12) ? counts[what] : -1;
    }
}
