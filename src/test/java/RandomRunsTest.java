import java.util.NoSuchElementException;
import java.util.Random;

/** Runs of calls drawn from fixed seeds: the desk answers what the model answers. */
public final class RandomRunsTest {
    private static final int RUNS = 1500;
    private static final int CALLS = 512;
    private static final int CALL_KINDS = 60;
    private static final String[] NAMES = {"a", "bb", "zzzzzz", "q"};
    private static final int[] ODD = {-2, -1, 0, 1, 2, 3, 4, 5, 9, 10, 63, 64, 100, 999, 1000, 9999, 99999, 100000,
        Integer.MAX_VALUE, Integer.MIN_VALUE};

    private final Random random;
    private final int seed;
    private ExemptDesk desk = new ExemptDesk();
    private Model model = new Model();
    private String call;

    private RandomRunsTest(int seed) {
        this.seed = seed;
        random = new Random(seed);
    }

    public static void main(String[] args) {
        int runs = args.length > 0 ? Integer.parseInt(args[0]) : RUNS;
        int wrong = 0;
        for (int seed = 0; seed < runs && wrong < 10; seed++) {
            wrong += new RandomRunsTest(seed).run() ? 0 : 1;
        }
        if (wrong > 0) {
            System.exit(1);
        }
    }

    private boolean run() {
        boolean untold = random.nextInt(20) == 0;
        for (int i = 0; i < CALLS; i++) {
            int kind = random.nextInt(CALL_KINDS);
            if (kind == 0 && random.nextInt(4) > 0) {
                kind = 7;
            }
            long difference = i == 0 && !untold ? tell(text()) : one(kind);
            if (difference != 0) {
                System.out.println("seed " + seed + ", call " + i + ", " + call);
                return false;
            }
        }
        return true;
    }

    private int below(int n) {
        return random.nextInt(n);
    }

    private int t() {
        return below(25) == 0 ? odd() : below(Math.max(1, model.count(0)));
    }

    private int a() {
        return below(25) == 0 ? odd() : below(Math.max(1, model.count(2)));
    }

    /** Mostly 0 .. n - 1. */
    private int k(int n) {
        return below(25) == 0 ? odd() : below(n);
    }

    private int odd() {
        return ODD[below(ODD.length)];
    }

    private int q() {
        return below(25) == 0 ? odd() : below(model.count(1) + 2);
    }

    private int y() {
        return below(25) == 0 ? odd() : below(model.count(1) / 4 + (below(4) == 0 ? 2 : 1));
    }

    private int amount(int most) {
        int kind = below(12);
        return kind == 0 ? odd() : kind == 1 ? most - below(3) : 1 + below(kind < 6 ? 12 : Math.min(most, 1200));
    }

    private long due(String name, long want, long got, int... args) {
        StringBuilder text = new StringBuilder(name);
        for (int arg : args) {
            text.append(' ').append(arg);
        }
        call = text.append(" answered ").append(got).append(", due is ").append(want).toString();
        return want - got;
    }

    private long one(int kind) {
        if (kind < 20) {
            return change(kind);
        }
        return kind < 40 ? ask(kind) : wonder(kind);
    }

    private long change(int kind) {
        int t = t();
        int a = a();
        switch (kind) {
            case 0: return tell(below(3) == 0 ? text() : spoilt(text()));
            case 1: case 2: { int k = k(2); int m = amount(99999);
                return due("sale", model.sale(t, k, m), desk.sale(t, k, m), t, k, m); }
            case 3: case 4: { int k = k(3); int m = amount(9999);
                return due("buy", model.buy(t, k, m), desk.buy(t, k, m), t, k, m); }
            case 5: { int q = model.count(1) - 1 - k(3); int k = k(5); int m = amount(9999);
                return due("late", model.late(t, q, k, m), desk.late(t, q, k, m), t, q, k, m); }
            case 6: { int all = k(20); int own = all > 0 && below(9) > 0 ? below(Math.min(all, 2000) + 1) : odd();
                return due("heads", model.heads(t, own, all), desk.heads(t, own, all) ? 1 : 0, t, own, all); }
            case 7: case 8: { int k = k(3); int m = amount(99999); int n = below(9) == 0 ? odd() : 5 + 5 * below(2);
                return due("acquire", model.acquire(t, k, m, n), desk.acquire(t, k, m, n), t, k, m, n); }
            case 9: case 10: { int k = k(3);
                return due("use", model.use(a, k), desk.use(a, k) ? 1 : 0, a, k); }
            case 11: { int k = k(3); int cap = below(3) > 0 ? -1 : amount(99999);
                if (below(3) > 0) {
                    return due("would", model.would(a, k), desk.would(a, k), a, k);
                }
                return due("sell", model.sell(a, k, cap), desk.sell(a, k, cap), a, k, cap); }
            case 12: return due("hand", model.hand(a, t), desk.hand(a, t), a, t);
            case 13: { int n = below(6) > 0 ? 1 + below(2) : below(4) > 0 ? 1 + below(5) : odd();
                return due("close", model.close(n), desk.close(n), n); }
            case 14: return due("close", model.close(1), desk.close(1), 1);
            case 15: { int n = 4 - model.count(1) % 4;
                return due("close", model.close(n), desk.close(n), n); }
            case 16: return due("undo", model.undo(), desk.undo());
            case 17: return below(3) > 0 ? due("keep", model.keep(), desk.keep()) : due("undo", model.undo(), desk.undo());
            case 18: return below(5) > 0 ? due("undo", model.undo(), desk.undo()) : due("back", model.back(), desk.back());
            default: { int v = random.nextInt(); int n = below(3) == 0 ? model.count(11) : Math.max(-2, odd() - 1);
                long wrong = due("feed", model.feed(v, v, v, n, v), desk.feed(v, v, v, n, v), v, v, v, n, v);
                return wrong != 0 || below(3) > 0 ? wrong : due("text", model.text(n), desk.text(n), n); }
        }
    }

    private long ask(int kind) {
        int t = t();
        int a = a();
        switch (kind) {
            case 20: { int k = below(13) > 0 ? below(13) : odd(); return due("count", model.count(k), desk.count(k), k); }
            case 21: { int k = k(6); return due("trader", model.trader(t, k), deskTrader(t, k), t, k); }
            case 22: case 23: { int k = k(10); return due("asset", model.asset(a, k), desk.asset(a, k), a, k); }
            case 24: { int q = q(); int k = k(5); return due("sum", model.sum(t, q, k), desk.sum(t, q, k), t, q, k); }
            case 25: case 26: { int q = q(); return due("provisional", model.provisional(t, q), desk.provisional(t, q), t, q); }
            case 27: { int q = q(); return due("recovered", model.recovered(t, q), desk.recovered(t, q), t, q); }
            case 28: case 29: { int y = y(); int k = k(4); return due("annual", model.annual(t, y, k), desk.annual(t, y, k), t, y, k); }
            case 30: case 31: { int i = k(5); int k = k(4); return due("interval", model.interval(a, i, k), desk.interval(a, i, k), a, i, k); }
            case 32: return due("taken", model.taken(a), desk.taken(a), a);
            case 33: return due("last", model.last(a), desk.last(a), a);
            case 34: case 35: { int i = below(3) > 0 ? k(12) : k(42); int k = k(5);
                return due("booked", model.booked(i, k), desk.booked(i, k), i, k); }
            case 36: { int k = k(4); return due("total", model.total(t, k), desk.total(t, k), t, k); }
            case 37: { int n = below(2) == 0 ? odd() : Check.packed(NAMES[below(4)]); return due("named", model.named(n), desk.named(n), n); }
            case 38: { int k = k(2); return due("fault", model.fault(k), desk.fault(k), k); }
            default: return due("owners", model.owners(a), desk.owners(a), a);
        }
    }

    private long wonder(int kind) {
        int t = t();
        int a = a();
        int y = y();
        switch (kind) {
            case 40: { int w = k(3); int m = k(3); int s = below(9) == 0 ? odd() : 10 + below(991);
                return due("by", model.by(t, y, w, m, s), desk.by(t, y, w, m, s), t, y, w, m, s); }
            case 41: return due("bestMethod", model.bestMethod(t, y), desk.bestMethod(t, y), t, y);
            case 42: return below(8) > 0 ? 0 : due("bestStep", model.bestStep(t, y), desk.bestStep(t, y), t, y);
            case 43: { int o = t(); return due("joint", model.joint(t, o, y), desk.joint(t, o, y), t, o, y); }
            case 44: return due("limitFor", model.limitFor(t, y), desk.limitFor(t, y), t, y);
            case 45: case 46: { int q = q(); int k = k(2); return due("byBasis", model.byBasis(t, q, k), desk.byBasis(t, q, k), t, q, k); }
            case 47: return due("leader", model.leader(y), desk.leader(y), y);
            case 48: return due("rise", model.rise(t), desk.rise(t), t);
            case 49: { int f = below(9) == 0 ? odd() : below(model.count(5) + 1); return due("need", model.need(t, f), desk.need(t, f), t, f); }
            case 50: { int k = k(3); return below(8) > 0 ? 0 : due("room", model.room(t, k), desk.room(t, k), t, k); }
            case 51: { int k = k(2); return due("would", model.would(a, k), desk.would(a, k), a, k); }
            case 52: { int k = k(2); return due("bestWait", model.bestWait(a, k), desk.bestWait(a, k), a, k); }
            case 53: { int n = k(8); return due("project", model.project(a, n), desk.project(a, n), a, n); }
            case 54: { int k = k(3); return due("ifUse", model.ifUse(a, k), desk.ifUse(a, k), a, k); }
            case 55: { int m = below(9) == 0 ? odd() : below(200) - 100; return due("even", model.even(a, m), desk.even(a, m), a, m); }
            case 56: return due("worth", model.worth(a), desk.worth(a), a);
            case 57: { int n = k(17); int s = k(4); return due("tried", model.tried(n, t, s), desk.tried(n, t, s), n, t, s); }
            case 58: { int s = below(3) > 0 ? odd() : random.nextInt(Integer.MAX_VALUE); int n = k(9);
                return due("chance", model.chance(s, n, t), desk.chance(s, n, t), s, n, t); }
            default: return due("farthest", model.farthest(t), desk.farthest(t), t);
        }
    }

    private int deskTrader(int trader, int what) {
        try {
            return desk.trader(trader, what);
        } catch (IndexOutOfBoundsException e) {
            return Integer.MIN_VALUE;
        } catch (NoSuchElementException e) {
            return Integer.MIN_VALUE + 1;
        }
    }

    // ---- texts

    private long tell(String text) {
        if (model.count(11) > 0) {
            int n = model.count(11);
            due("text of what was fed", model.text(n), desk.text(n), n);
        }
        for (int from = 0; from < text.length(); from += 20) {
            int[] four = new int[5];
            for (int i = 0; i < 20; i++) {
                four[i / 4] = four[i / 4] << 8 | (from + i < text.length() ? text.charAt(from + i) & 255 : 32);
            }
            long wrong = due("feed", model.feed(four[0], four[1], four[2], four[3], four[4]),
                desk.feed(four[0], four[1], four[2], four[3], four[4]));
            if (wrong != 0) {
                return wrong;
            }
        }
        int n = text.length();
        long wrong = due("text " + text, model.text(n), desk.text(n), n);
        wrong = wrong != 0 ? wrong : due("fault of " + text, model.fault(0), desk.fault(0));
        return wrong != 0 ? wrong : due("place of " + text, model.fault(1), desk.fault(1));
    }

    private String text() {
        StringBuilder text = new StringBuilder();
        int traders = 1 + below(4);
        if (below(3) > 0) {
            text.append("round ").append(new String[] {"down", "up", "near"}[below(3)]).append(';');
        }
        if (below(3) > 0) {
            text.append("step ").append(below(2) == 0 ? 10 + below(30) : 10 + below(991)).append(';');
        }
        if (below(3) > 0) {
            text.append("limit ").append(below(2) == 0 ? below(100) : below(10000)).append(';');
        }
        if (below(3) == 0) {
            text.append("seed ").append(below(100000)).append(';');
        }
        for (int i = 0; i < traders; i++) {
            text.append("trader ").append(NAMES[i]).append(' ').append(below(3)).append(' ').append(below(2)).append(";\n");
            if (below(2) == 0) {
                int all = below(12);
                text.append("head ").append(NAMES[i]).append(' ').append(below(all + 1)).append(' ').append(all).append(';');
            }
            if (below(2) == 0) {
                text.append("start ").append(NAMES[i]).append(' ').append(below(3) == 0 ? below(1001) : below(90)).append(';');
            }
        }
        for (int i = below(20); i > 0; i--) {
            String name = NAMES[below(traders)];
            int quarter = below(5) == 0 ? below(64) : below(12);
            switch (below(4)) {
                case 0: line(text, "asset", name, quarter, below(3), 1 + below(9999), 5 + 5 * below(2)); break;
                case 1: line(text, "buy", name, quarter, below(3), 1 + below(below(2) == 0 ? 60 : 9999)); break;
                default: line(text, "sale", name, quarter, below(2), 1 + below(below(2) == 0 ? 60 : 99999)); break;
            }
        }
        return text.length() > 700 ? text.substring(0, text.lastIndexOf(";", 699) + 1) : text.toString();
    }

    private static void line(StringBuilder text, String word, String name, int... numbers) {
        text.append(word).append(' ').append(name);
        for (int number : numbers) {
            text.append(' ').append(number);
        }
        text.append(';');
    }

    private String spoilt(String text) {
        StringBuilder spoilt = new StringBuilder(text);
        String[] bits = {"a", " ", ";", "9", "0", "up", "near", "trader ", "$", "\u00ff", "x y", "\n", "1000", "zzzzzzz",
            "head a 1 1;", "start a 5;", "step 10;", "limit 5;", "seed 1;", "round up;", "buy a 0 0 1;", "\t", "Z"};
        for (int i = below(3); i >= 0; i--) {
            int at = below(spoilt.length() + 1);
            int way = below(3);
            if (way == 0 || at == spoilt.length()) {
                spoilt.insert(at, bits[below(bits.length)]);
            } else if (way == 1) {
                spoilt.delete(at, Math.min(spoilt.length(), at + 1 + below(4)));
            } else {
                spoilt.replace(at, at + 1, bits[below(bits.length)]);
            }
        }
        return spoilt.length() > 700 ? spoilt.substring(0, 700) : spoilt.toString();
    }
}
