import java.util.ArrayList;
import java.util.List;

/** Promises 6 to 25: how far each argument goes, what is answered there and behind that. */
public final class CallEdgesTest {
    private static final Check check = new Check();
    private static final int NO = -999999;
    private static final int LEAST = Integer.MIN_VALUE;
    private static final int MOST = Integer.MAX_VALUE;

    public static void main(String[] args) {
        promise6();
        promise6AssetBits();
        promise7();
        promise8();
        promise9();
        promise10();
        promise11();
        promise12();
        promise13();
        promise14();
        promise14Closed();
        promise15();
        promise16();
        promise17();
        promise18();
        promise19();
        promise20();
        promise21();
        promise22And23();
        promise24();
        promise24Ring();
        promise25();
        withoutTraders();
        check.end();
    }

    private static ExemptDesk two() {
        return Check.desk("trader a 0 0;trader b 2 1;head b 3 7;start b 1000;");
    }

    /** "IndexOutOfBoundsException: no such TRADER. NoSuchElementException: no such what", the first ahead. */
    private static void promise6() {
        for (int count = 0; count <= 4; count++) {
            StringBuilder text = new StringBuilder();
            for (int i = 0; i < count; i++) {
                text.append("trader ").append((char) ('a' + i)).append(" 0 0;");
            }
            ExemptDesk desk = Check.desk(text.toString());
            for (int what : new int[] {LEAST, -1, 0, 5, 6, MOST}) {
                for (int trader : new int[] {LEAST, -1, 0, 1, 2, 3, 4, MOST}) {
                    boolean known = trader >= 0 && trader < count;
                    check.traderThrows(!known ? 1 : what < 0 || what > 5 ? 2 : 0, desk, trader, what);
                }
            }
        }
        int[] due = {2, 1, 3, 7, 1000, 0};
        for (int what = 0; what < 6; what++) {
            check.due("what " + what, due[what], two().trader(1, what));
        }
        check.due("start: nothing", -2, two().trader(0, 4));
    }

    /** "5 its ASSETS that are not SHUT (OWNER now), as bits": none, the first, the eighth. */
    private static void promise6AssetBits() {
        ExemptDesk desk = two();
        check.due("none", 0, desk.trader(0, 5));
        for (int i = 0; i < 8; i++) {
            desk.acquire(i == 7 ? 1 : 0, 0, 1, 5);
        }
        check.due("seven of a", 127, desk.trader(0, 5));
        check.due("the eighth of b", 128, desk.trader(1, 5));
        desk.hand(0, 1);
        desk.sell(1, 2, -1);
        desk.close(3);
        check.due("this year", 127, desk.trader(0, 5));
        desk.close(1);
        check.due("handed, shut", 124, desk.trader(0, 5));
        check.due("the first and the eighth", 129, desk.trader(1, 5));
    }

    /** "NONE: no such ones": of none, of eight ASSETS; what 0 .. 9. */
    private static void promise7() {
        ExemptDesk desk = two();
        check.due("of none", -1, desk.asset(0, 0));
        for (int i = 0; i < 8; i++) {
            desk.acquire(0, 1, 10 + i, 5);
        }
        check.due("the first", 10, desk.asset(0, 2));
        check.due("the last", 17, desk.asset(7, 2));
        for (int asset : new int[] {LEAST, -1, 8, MOST}) {
            check.due("asset " + asset, -1, desk.asset(asset, 2));
        }
        for (int what : new int[] {LEAST, -1, 10, MOST}) {
            check.due("what " + what, -1, desk.asset(0, what));
        }
        check.due("what 9", -2, desk.asset(0, 9));
        check.due("what 5", -2, desk.asset(0, 5));
        desk.close(4);
        check.due("what 9, 0 all the same", 0, desk.asset(0, 9));
        check.due("what 5, 0 all the same", 0, desk.asset(0, 5));
    }

    /** "KIND 0 or 1, 1 .. 99999". */
    private static void promise8() {
        ExemptDesk desk = two();
        check.due("the least", 1, desk.sale(0, 0, 1));
        check.due("the most", 99999, desk.sale(1, 1, 99999));
        for (int trader : new int[] {LEAST, -1, 2, MOST}) {
            check.due("trader " + trader, -1, desk.sale(trader, 0, 1));
        }
        for (int kind : new int[] {LEAST, -1, 2, MOST}) {
            check.due("kind " + kind, -1, desk.sale(0, kind, 1));
        }
        for (int amount : new int[] {LEAST, -1, 0, 100000, MOST}) {
            check.due("amount " + amount, -1, desk.sale(0, 0, amount));
        }
        check.due("nothing came", 1, desk.sum(0, 0, 0));
        check.due("nothing to undo of it", 2, desk.count(10));
        for (int i = 2; i <= 300; i++) {
            check.due("more and more", i * 99999, desk.sale(1, 1, 99999));
        }
    }

    /** "KIND 0 .. 2, TAX 1 .. 9999". */
    private static void promise9() {
        ExemptDesk desk = two();
        check.due("the least", 1, desk.buy(0, 0, 1));
        check.due("the most", 9999, desk.buy(1, 2, 9999));
        for (int trader : new int[] {LEAST, -1, 2, MOST}) {
            check.due("trader " + trader, -1, desk.buy(trader, 0, 1));
        }
        for (int kind : new int[] {LEAST, -1, 3, MOST}) {
            check.due("kind " + kind, -1, desk.buy(0, kind, 1));
        }
        for (int tax : new int[] {LEAST, -1, 0, 10000, MOST}) {
            check.due("tax " + tax, -1, desk.buy(0, 0, tax));
        }
        check.due("nothing came", 1, desk.sum(0, 0, 2));
        check.due("nothing to undo of it", 2, desk.count(10));
    }

    /** "of a QUARTER of this YEAR that is CLOSED, what as sum(), 1 .. 9999 more". */
    private static void promise10() {
        ExemptDesk desk = two();
        check.due("none is closed", -1, desk.late(0, 0, 0, 1));
        desk.close(6);
        check.due("the least", 1, desk.late(0, 4, 0, 1));
        check.due("the most", 9999, desk.late(1, 5, 4, 9999));
        for (int trader : new int[] {LEAST, -1, 2, MOST}) {
            check.due("trader " + trader, -1, desk.late(trader, 4, 0, 1));
        }
        for (int quarter : new int[] {LEAST, -1, 0, 3, 6, 7, 63, 64, MOST}) {
            check.due("quarter " + quarter, -1, desk.late(0, quarter, 0, 1));
        }
        for (int what : new int[] {LEAST, -1, 5, MOST}) {
            check.due("what " + what, -1, desk.late(0, 4, what, 1));
        }
        for (int amount : new int[] {LEAST, -1, 0, 10000, MOST}) {
            check.due("amount " + amount, -1, desk.late(0, 4, 0, amount));
        }
        check.due("sales, too, 9999 at most", 10000, desk.late(0, 4, 0, 9999));
        check.due("nothing else came", 10000, desk.sum(0, 4, 0));
        check.due("nothing to undo of it", 4, desk.count(10));
    }

    /** "OWN 0 .. all, all 0 .. 999". */
    private static void promise11() {
        ExemptDesk desk = two();
        int[][] allowed = {{0, 0}, {0, 1}, {1, 1}, {0, 999}, {999, 999}};
        for (int[] heads : allowed) {
            check.due(heads[0] + " of " + heads[1], true, desk.heads(1, heads[0], heads[1]));
            check.due("own", heads[0], desk.trader(1, 2));
            check.due("all", heads[1], desk.trader(1, 3));
        }
        int[][] refused = {{1, 0}, {-1, 0}, {-1, -1}, {0, -1}, {0, 1000}, {1000, 1000}, {999, 998}, {LEAST, 5},
            {MOST, MOST}, {0, MOST}, {LEAST, LEAST}, {0, LEAST}};
        for (int[] heads : refused) {
            check.due(heads[0] + " of " + heads[1], false, desk.heads(1, heads[0], heads[1]));
        }
        for (int trader : new int[] {LEAST, -1, 2, MOST}) {
            check.due("trader " + trader, false, desk.heads(trader, 0, 0));
        }
        check.due("own stays", 999, desk.trader(1, 2));
        check.due("nothing to undo of it", 5, desk.count(10));
    }

    /** "USE 0 .. 2, TAX 1 .. 99999, INTERVALS 5 or 10: its number; .. -2: there are eight." */
    private static void promise12() {
        ExemptDesk desk = two();
        check.due("the least", 0, desk.acquire(0, 0, 1, 5));
        check.due("the most", 1, desk.acquire(1, 2, 99999, 10));
        for (int times = 0; times < 2; times++) {
            for (int trader : new int[] {LEAST, -1, 2, MOST}) {
                check.due("trader " + trader, -1, desk.acquire(trader, 0, 1, 5));
            }
            for (int use : new int[] {LEAST, -1, 3, MOST}) {
                check.due("use " + use, -1, desk.acquire(0, use, 1, 5));
            }
            for (int tax : new int[] {LEAST, -1, 0, 100000, MOST}) {
                check.due("tax " + tax, -1, desk.acquire(0, 0, tax, 5));
            }
            for (int intervals : new int[] {LEAST, -1, 0, 4, 6, 9, 11, MOST}) {
                check.due("intervals " + intervals, -1, desk.acquire(0, 0, 1, intervals));
            }
            for (int i = 2; i < 8 && times == 0; i++) {
                check.due("number", i, desk.acquire(0, 0, 1, 5));
            }
        }
        check.due("there are eight", -2, desk.acquire(0, 0, 1, 5));
        check.due("nothing to undo of it", 8, desk.count(10));
        desk.undo();
        check.due("there are seven", 7, desk.acquire(0, 0, 1, 5));
    }

    /** "false: no such ones, it is SHUT, SOLD, LOST, in its INTERVAL 0." */
    private static void promise13() {
        ExemptDesk desk = two();
        desk.acquire(0, 0, 100, 5);
        check.due("in its interval 0", false, desk.use(0, 1));
        desk.close(4);
        check.due("use 0", true, desk.use(0, 0));
        check.due("use 2", true, desk.use(0, 2));
        for (int use : new int[] {LEAST, -1, 3, MOST}) {
            check.due("use " + use, false, desk.use(0, use));
        }
        for (int asset : new int[] {LEAST, -1, 1, MOST}) {
            check.due("asset " + asset, false, desk.use(asset, 1));
        }
        for (int kind = 0; kind < 3; kind++) {
            desk.sell(0, kind, -1);
            check.due("sold, lost", false, desk.use(0, 1));
            desk.close(4);
            check.due("shut", false, desk.use(0, 1));
            desk.undo();
            desk.undo();
        }
        check.due("use stays", 2, desk.asset(0, 1));
        check.due("the same one", true, desk.use(0, 2));
        check.due("can be undone, too", 4 + 1, desk.count(10));
    }

    /** "CAP 0 .. 99999, NONE: none (KIND 2: NONE alone)". */
    private static void promise14() {
        int[] caps = {LEAST, -2, -1, 0, 99999, 100000, MOST};
        for (int kind = -1; kind <= 3; kind++) {
            for (int cap : caps) {
                ExemptDesk desk = two();
                desk.acquire(0, 0, 100, 10);
                boolean allowed = kind == 2 ? cap == -1 : kind >= 0 && kind < 2 && cap >= -1 && cap <= 99999;
                check.due("kind " + kind + ", cap " + cap, allowed ? 9 : -1, desk.sell(0, kind, cap));
                check.due("sold", allowed ? kind : -2, desk.asset(0, 6));
                check.due("can be undone", allowed ? 2 : 1, desk.count(10));
            }
        }
        ExemptDesk desk = two();
        desk.acquire(0, 0, 100, 5);
        for (int asset : new int[] {LEAST, -1, 1, MOST}) {
            check.due("asset " + asset, -1, desk.sell(asset, 0, -1));
        }
        for (int kind : new int[] {LEAST, MOST}) {
            check.due("kind " + kind, -1, desk.sell(0, kind, -1));
        }
        for (int interval = 0; interval < 5; interval++) {
            check.due("intervals behind " + interval, 4 - interval, desk.sell(0, 0, -1));
            desk.undo();
            desk.close(4);
        }
        check.due("behind the last one", -2, desk.sell(0, 0, -1));
    }

    /** "-2: it is SHUT, SOLD, LOST"; NONE goes ahead of it. */
    private static void promise14Closed() {
        for (int kind = 0; kind < 3; kind++) {
            ExemptDesk desk = two();
            desk.acquire(0, 0, 100, 5);
            desk.sell(0, kind, -1);
            for (int years = 0; years < 2; years++) {
                for (int other = 0; other < 3; other++) {
                    check.due("sold already", -2, desk.sell(0, other, -1));
                }
                check.due("handed", -2, desk.hand(0, 1));
                check.due("no such kind", -1, desk.sell(0, 3, -1));
                check.due("no such cap", -1, desk.sell(0, 0, 100000));
                check.due("lost with a cap", -1, desk.sell(0, 2, 0));
                check.due("no such trader", -1, desk.hand(0, 2));
                check.due("kind stays", kind, desk.asset(0, 6));
                desk.close(4);
            }
            check.due("nothing to undo of it", 4, desk.count(10));
        }
    }

    /** "who was OWNER next YEAR": to each TRADER, the OWNER, too. */
    private static void promise15() {
        ExemptDesk desk = two();
        desk.acquire(0, 0, 100, 5);
        check.due("to the owner", 0, desk.hand(0, 0));
        check.due("to the last trader", 0, desk.hand(0, 1));
        check.due("once more", 1, desk.hand(0, 1));
        check.due("back to the owner", 1, desk.hand(0, 0));
        check.due("can be undone", 5, desk.count(10));
        for (int trader : new int[] {LEAST, -1, 2, MOST}) {
            check.due("trader " + trader, -1, desk.hand(0, trader));
        }
        for (int asset : new int[] {LEAST, -1, 1, MOST}) {
            check.due("asset " + asset, -1, desk.hand(asset, 0));
        }
        check.due("next year", 0, desk.asset(0, 8));
        desk.close(16);
        check.due("in its last interval", 0, desk.hand(0, 1));
        desk.close(4);
        check.due("shut", -2, desk.hand(0, 0));
        check.due("its owner", 1, desk.asset(0, 0));
        check.due("and next year", 1, desk.asset(0, 8));
    }

    /** "n 1 .. 16 QUARTERS CLOSE"; "-2: QUARTER 63 would CLOSE". */
    private static void promise16() {
        for (int n : new int[] {LEAST, -1, 0, 17, 64, MOST}) {
            check.due("n " + n, -1, two().close(n));
        }
        check.due("n 1", 2, two().close(1));
        check.due("n 16", 40, two().close(16));
        for (int now = 47; now <= 63; now++) {
            for (int n = 1; n <= 17; n++) {
                ExemptDesk desk = new ExemptDesk();
                desk.close(16);
                desk.close(16);
                desk.close(now - 32 > 16 ? 16 : now - 32);
                if (now > 48) {
                    desk.close(now - 48);
                }
                int undoable = desk.count(10);
                check.due(n + " in " + now, n == 17 ? -1 : now + n > 63 ? -2 : 0, desk.close(n));
                check.due("now", n == 17 || now + n > 63 ? now : now + n, desk.count(1));
                check.due("undoable", n == 17 || now + n > 63 ? undoable : undoable + 1, desk.count(10));
            }
        }
    }

    /** "(QUARTERS 0 .. 63)", "what 0 SALES of KIND 0, 1 of KIND 1, 2 .. 4 TAX of KINDS 0 .. 2". */
    private static void promise17() {
        ExemptDesk desk = two();
        for (int what = 0; what < 5; what++) {
            if (what < 2) {
                desk.sale(1, what, 10 + what);
            } else {
                desk.buy(1, what - 2, 10 + what);
            }
        }
        for (int what = 0; what < 5; what++) {
            check.due("what " + what, 10 + what, desk.sum(1, 0, what));
            check.due("quarter 63", 0, desk.sum(1, 63, what));
        }
        for (int trader : new int[] {LEAST, -1, 2, MOST}) {
            check.due("trader " + trader, -1, desk.sum(trader, 0, 0));
        }
        for (int quarter : new int[] {LEAST, -1, 64, MOST}) {
            check.due("quarter " + quarter, -1, desk.sum(0, quarter, 0));
        }
        for (int what : new int[] {LEAST, -1, 5, MOST}) {
            check.due("what " + what, -1, desk.sum(0, 0, what));
        }
    }

    /** "in a QUARTER up to NOW ..; -2: it is still to come; NONE: no such ones." */
    private static void promise18() {
        ExemptDesk desk = two();
        desk.close(3);
        check.due("the first", 100, desk.provisional(1, 0));
        check.due("now", 100, desk.provisional(1, 3));
        check.due("the next", -2, desk.provisional(1, 4));
        check.due("quarter 63", -2, desk.provisional(1, 63));
        for (int quarter : new int[] {LEAST, -1, 64, MOST}) {
            check.due("quarter " + quarter, -1, desk.provisional(1, quarter));
        }
        for (int trader : new int[] {LEAST, -1, 2, MOST}) {
            check.due("trader " + trader, -1, desk.provisional(trader, 0));
            check.due("none goes first", -1, desk.provisional(trader, 4));
        }
        desk.close(1);
        check.due("annual of the year ahead", 42, desk.provisional(1, 4));
    }

    /** "-2: it is not CLOSED; NONE: no such ones." */
    private static void promise19() {
        ExemptDesk desk = two();
        desk.buy(0, 0, 5);
        check.due("none is closed", -2, desk.recovered(0, 0));
        desk.close(1);
        check.due("the last closed", 5, desk.recovered(0, 0));
        check.due("of 0", 0, desk.recovered(1, 0));
        check.due("now", -2, desk.recovered(0, 1));
        check.due("quarter 63", -2, desk.recovered(0, 63));
        for (int quarter : new int[] {LEAST, -1, 64, MOST}) {
            check.due("quarter " + quarter, -1, desk.recovered(0, quarter));
        }
        for (int trader : new int[] {LEAST, -1, 2, MOST}) {
            check.due("trader " + trader, -1, desk.recovered(trader, 0));
            check.due("none goes first", -1, desk.recovered(trader, 1));
        }
    }

    /** "in a YEAR 0 .. 15 ..; -999999: it is still to come, no such ones." */
    private static void promise20() {
        ExemptDesk desk = two();
        int[] due = {42, 0, 1, 0};
        for (int quarter = 0; quarter <= 4; quarter++) {
            check.due("what 0", 42, desk.annual(1, 0, 0));
            check.due("year 1", quarter < 4 ? NO : 42, desk.annual(1, 1, 0));
            if (quarter < 4) {
                desk.close(1);
            }
        }
        for (int what = 0; what < 4; what++) {
            check.due("what " + what, due[what], desk.annual(1, 0, what));
            check.due("to come", NO, desk.annual(1, 2, what));
        }
        for (int trader : new int[] {LEAST, -1, 2, MOST}) {
            check.due("trader " + trader, NO, desk.annual(trader, 0, 0));
        }
        for (int year : new int[] {LEAST, -1, 2, 15, 16, MOST}) {
            check.due("year " + year, NO, desk.annual(1, year, 0));
        }
        for (int what : new int[] {LEAST, -1, 4, MOST}) {
            check.due("what " + what, NO, desk.annual(1, 0, what));
        }
    }

    /** "-999999: it is not through, no such ones." */
    private static void promise21() {
        ExemptDesk desk = two();
        desk.acquire(1, 2, 100, 5);
        check.due("interval 0 is not through", NO, desk.interval(0, 0, 0));
        for (int years = 1; years <= 6; years++) {
            desk.close(4);
            for (int i = 0; i < 7; i++) {
                check.due("interval " + i + " in year " + years, i < years && i < 5 ? i : NO, desk.interval(0, i, 0));
            }
        }
        int[] due = {0, 42, 0, 1};
        for (int what = 0; what < 4; what++) {
            check.due("what " + what, due[what], desk.interval(0, 0, what));
        }
        for (int what : new int[] {LEAST, -1, 4, MOST}) {
            check.due("what " + what, NO, desk.interval(0, 0, what));
        }
        for (int i : new int[] {LEAST, -1, 5, 10, MOST}) {
            check.due("i " + i, NO, desk.interval(0, i, 0));
        }
        for (int asset : new int[] {LEAST, -1, 1, 8, MOST}) {
            check.due("asset " + asset, NO, desk.interval(asset, 0, 0));
        }
        ExemptDesk ten = two();
        ten.acquire(0, 0, 100, 10);
        ten.close(16);
        ten.close(16);
        ten.close(7);
        check.due("the tenth is not through", NO, ten.interval(0, 9, 0));
        ten.close(1);
        check.due("the tenth", 9, ten.interval(0, 9, 0));
        check.due("no eleventh", NO, ten.interval(0, 10, 0));
    }

    /** "-999999: no such ASSET", "none was, no such ASSET". */
    private static void promise22And23() {
        ExemptDesk desk = two();
        check.due("taken by none", NO, desk.taken(0));
        check.due("last of none", NO, desk.last(0));
        for (int i = 0; i < 8; i++) {
            desk.acquire(0, 1, 100, 5);
        }
        desk.sell(0, 0, -1);
        desk.sell(7, 1, -1);
        check.due("nothing taken yet", 0, desk.taken(7));
        check.due("no final yet", NO, desk.last(7));
        desk.close(4);
        check.due("taken by the first", 80, desk.taken(0));
        check.due("taken by the last", 0, desk.taken(7));
        check.due("last of the first", 80, desk.last(0));
        check.due("a final of 0 is one", 0, desk.last(7));
        check.due("none was", NO, desk.last(1));
        for (int asset : new int[] {LEAST, -1, 8, MOST}) {
            check.due("taken by " + asset, NO, desk.taken(asset));
            check.due("last of " + asset, NO, desk.last(asset));
        }
    }

    /** "(0 the latest; 40 are kept)". */
    private static void promise24() {
        ExemptDesk desk = Check.desk("trader a 0 0;");
        check.due("of none", NO, desk.booked(0, 0));
        desk.close(16);
        desk.close(15);
        check.due("38 entries", 38, desk.count(4));
        check.due("the first", 0, desk.booked(37, 0));
        check.due("none ahead of it", NO, desk.booked(38, 0));
        desk.close(1);
        check.due("40 entries", 40, desk.count(4));
        check.due("the first is kept", 0, desk.booked(39, 0));
        check.due("no 41st", NO, desk.booked(40, 0));
        desk.close(1);
        check.due("41 entries", 41, desk.count(4));
        check.due("the second is kept", 1, desk.booked(39, 0));
        check.due("the first isn't", NO, desk.booked(40, 0));
        for (int k : new int[] {LEAST, -1, 40, MOST}) {
            check.due("k " + k, NO, desk.booked(k, 0));
        }
        for (int what : new int[] {LEAST, -1, 5, MOST}) {
            check.due("what " + what, NO, desk.booked(0, what));
        }
        check.due("what 4", -2, desk.booked(0, 4));
        check.due("what 0", 32, desk.booked(0, 0));
        desk.undo();
        check.due("the first is back by undo", 0, desk.booked(39, 0));
        check.due("the latest, too", 31, desk.booked(0, 0));
    }

    /** All 40 parts that are kept, from each place of a ring, against those that came. */
    private static void promise24Ring() {
        ExemptDesk desk = Check.desk("trader a 0 0;trader b 0 0;");
        List<int[]> came = new ArrayList<>();
        for (int quarter = 0; quarter < 44; quarter++) {
            desk.buy(0, 0, quarter + 1);
            desk.buy(1, 0, 100 + quarter);
            desk.close(1);
            came.add(new int[] {quarter, 0, 0, quarter + 1, -2});
            came.add(new int[] {quarter, 1, 0, 100 + quarter, -2});
            if (quarter % 4 == 3) {
                came.add(new int[] {quarter, 0, 1, 0, -2});
                came.add(new int[] {quarter, 1, 1, 0, -2});
            }
            int k = quarter % 3 == 0 ? 39 : quarter % 40;
            for (int what = 0; what < 5; what++) {
                int due = k < came.size() ? came.get(came.size() - 1 - k)[what] : NO;
                check.due("entry " + k + " in " + quarter, due, desk.booked(k, what));
            }
        }
    }

    /** "of a SORT 0 .. 3". */
    private static void promise25() {
        ExemptDesk desk = two();
        desk.acquire(1, 1, 1000, 5);
        desk.close(4);
        desk.use(0, 0);
        desk.sell(0, 0, -1);
        desk.close(4);
        int[] due = {0, 0, 200, 600};
        for (int sort = 0; sort < 4; sort++) {
            check.due("sort " + sort, due[sort], desk.total(1, sort));
        }
        for (int sort : new int[] {LEAST, -1, 4, MOST}) {
            check.due("sort " + sort, NO, desk.total(1, sort));
        }
        for (int trader : new int[] {LEAST, -1, 2, MOST}) {
            check.due("trader " + trader, NO, desk.total(trader, 0));
        }
    }

    /** Without TRADERS nothing is told, sold, bought; QUARTERS CLOSE all the same. */
    private static void withoutTraders() {
        ExemptDesk desk = new ExemptDesk();
        check.due("sale", -1, desk.sale(0, 0, 1));
        check.due("buy", -1, desk.buy(0, 0, 1));
        check.due("heads", false, desk.heads(0, 0, 0));
        check.due("acquire", -1, desk.acquire(0, 0, 1, 5));
        check.due("nothing is booked", 0, desk.close(16));
        check.due("late", -1, desk.late(0, 15, 0, 1));
        check.due("quarter", 16, desk.count(1));
        check.due("entries", 0, desk.count(4));
        check.due("leader", -2, desk.leader(0));
        check.due("joint", NO, desk.joint(0, 1, 0));
        check.due("tried", NO, desk.tried(1, 0, 0));
        check.due("chance", NO, desk.chance(0, 1, 0));
        check.due("can be undone", 0, desk.undo());
    }
}
