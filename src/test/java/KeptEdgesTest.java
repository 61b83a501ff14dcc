import java.util.ArrayList;
import java.util.List;

/** "Terms" 4 and promises 46 to 49: what is undone, what an IMAGE keeps, what changes nothing, what goes first. */
public final class KeptEdgesTest {
    private static final Check check = new Check();
    private static final int LEAST = Integer.MIN_VALUE;
    private static final int MOST = Integer.MAX_VALUE;
    private static final int ACTS = 13;

    public static void main(String[] args) {
        eachActUndone();
        twentyUndone();
        undoneOverAndOver();
        undoLeavesTheRest();
        refusedChangesNothing();
        askedChangesNothing();
        imageKeepsAll();
        imageInPlaceOfOneAhead();
        imageGoesWithAText();
        eightAssetsKept();
        numberOfAnotherAsset();
        numberOfAnotherAssetAtOnce();
        rowsOfFourTraders();
        noneGoesFirst();
        counts();
        check.end();
    }

    /** A desk in QUARTER 6 with three ASSETS, one of them handed, what is told yet to come, something BOOKED. */
    private static ExemptDesk busy() {
        ExemptDesk desk = Check.desk("trader a 0 0;trader b 2 1;head b 1 3;start b 40;round near;limit 20;seed 9;"
            + "sale a 0 0 30;sale a 7 1 50;buy a 1 2 500;buy b 7 2 90;asset a 0 2 900 5;asset b 6 0 70 10;asset a 7 1 33 5;");
        desk.sale(0, 1, 20);
        desk.acquire(1, 1, 400, 5);
        desk.close(5);
        desk.hand(0, 1);
        desk.close(1);
        return desk;
    }

    /** What some 200 questions answer, but what can be undone and the TAPE. */
    private static List<Integer> all(ExemptDesk desk) {
        List<Integer> all = new ArrayList<>();
        for (int what = 0; what < 13; what++) {
            all.add(what == 10 || what == 11 ? 0 : desk.count(what));
        }
        int now = desk.count(1);
        for (int trader = 0; trader < 2; trader++) {
            for (int what = 0; what < 6; what++) {
                all.add(desk.trader(trader, what));
            }
            for (int quarter = Math.max(0, now - 2); quarter <= now; quarter++) {
                for (int what = 0; what < 5; what++) {
                    all.add(desk.sum(trader, quarter, what));
                }
                all.add(desk.provisional(trader, quarter));
                all.add(desk.recovered(trader, quarter));
            }
            for (int sort = 0; sort < 4; sort++) {
                all.add(desk.total(trader, sort));
                all.add(desk.annual(trader, now / 4, sort));
            }
            all.add(desk.rise(trader));
            all.add(desk.farthest(trader));
            all.add(desk.limitFor(trader, now / 4));
            all.add(desk.tried(4, trader, 1));
            all.add(desk.chance(-1, 4, trader));
        }
        for (int asset = 0; asset < desk.count(2); asset++) {
            for (int what = 0; what < 10; what++) {
                all.add(desk.asset(asset, what));
            }
            all.add(desk.taken(asset));
            all.add(desk.last(asset));
            all.add(desk.worth(asset));
            all.add(desk.owners(asset));
        }
        for (int what = 0; what < 5; what++) {
            all.add(desk.booked(0, what));
            all.add(desk.booked(5, what));
        }
        return all;
    }

    private static void same(String what, List<Integer> due, List<Integer> got) {
        check.due(what + ": how many answers", due.size(), got.size());
        for (int i = 0; i < due.size() && i < got.size(); i++) {
            check.due(what + ": answer " + i, due.get(i), got.get(i));
        }
    }

    private static int act(ExemptDesk desk, int which) {
        switch (which) {
            case 0: return desk.sale(0, 0, 5);
            case 1: return desk.buy(1, 2, 60);
            case 2: return desk.late(0, 4, 1, 7);
            case 3: return desk.late(1, 5, 4, 8);
            case 4: return desk.heads(1, 2, 3) ? 1 : -1;
            case 5: return desk.acquire(1, 2, 80, 10);
            case 6: return desk.use(0, 0) ? 1 : -1;
            case 7: return desk.sell(0, 0, 5);
            case 8: return desk.sell(1, 1, -1);
            case 9: return desk.sell(1, 2, -1);
            case 10: return desk.hand(1, 0);
            case 11: return desk.close(1);
            default: return desk.close(16);
        }
    }

    /** "What is sold, bought, LATE, used, handed, told of HEADS, CLOSED by call can be undone ..: all is as it was." */
    private static void eachActUndone() {
        for (int which = 0; which < ACTS; which++) {
            ExemptDesk desk = busy();
            List<Integer> ahead = all(desk);
            check.due("undoable ahead", 5, desk.count(10));
            check.due("act " + which, true, act(desk, which) >= 0);
            check.due("undoable then", 6, desk.count(10));
            check.due("something is changed by " + which, false, ahead.equals(all(desk)));
            check.due("undone", 5, desk.undo());
            same("act " + which + " undone", ahead, all(desk));
        }
    }

    /** "(20 at most)": the 21st latest can't. */
    private static void twentyUndone() {
        for (int acts = 19; acts <= 41; acts++) {
            ExemptDesk desk = Check.desk("trader a 0 0;");
            for (int i = 0; i < acts; i++) {
                desk.sale(0, 0, 1);
            }
            int undoable = Math.min(acts, 20);
            check.due("undoable of " + acts, undoable, desk.count(10));
            for (int i = undoable - 1; i >= 0; i--) {
                check.due("undone of " + acts, i, desk.undo());
                check.due("the latest first", acts - undoable + i, desk.sum(0, 0, 0));
            }
            check.due("none of " + acts, -1, desk.undo());
            check.due("the others stay", acts - undoable, desk.sum(0, 0, 0));
        }
    }

    /** What is done behind an UNDO can be undone in its place, through each place of the twenty. */
    private static void undoneOverAndOver() {
        ExemptDesk desk = Check.desk("trader a 0 0;");
        int sum = 0;
        for (int turn = 1; turn <= 25; turn++) {
            for (int i = 0; i < 3; i++) {
                desk.sale(0, 0, turn);
                sum += turn;
            }
            check.due("turn " + turn, Math.min(20, turn + 2) - 1, desk.undo());
            check.due("turn " + turn, Math.min(20, turn + 2) - 2, desk.undo());
            sum -= 2 * turn;
            check.due("sum", sum, desk.sum(0, 0, 0));
        }
        check.due("18 are left", 18, desk.count(10));
        for (int i = 17; i >= 0; i--) {
            desk.undo();
        }
        check.due("the first seven stay", 28, desk.sum(0, 0, 0));
        check.due("no more", -1, desk.undo());
    }

    /** TAPE, FAULT and IMAGE are none of what is undone; nor is what feed, text, keep and back did. */
    private static void undoLeavesTheRest() {
        ExemptDesk desk = Check.desk("trader a 0 0;");
        desk.sale(0, 0, 3);
        Check.tell(desk, "step 9;");
        desk.feed(0, 0, 0, 0, 0);
        desk.sale(0, 0, 4);
        desk.keep();
        desk.sale(0, 0, 5);
        check.due("three sales", 3, desk.count(10));
        desk.undo();
        desk.undo();
        check.due("the last", 0, desk.undo());
        check.due("no sales", 0, desk.sum(0, 0, 0));
        check.due("the tape", 20, desk.count(11));
        check.due("the fault", 2, desk.fault(0));
        check.due("the image", 0, desk.back());
        check.due("of the image", 7, desk.sum(0, 0, 0));
        desk.sale(0, 0, 1);
        check.due("behind it", 0, desk.undo());
        check.due("back can't be undone", -1, desk.undo());
        check.due("it stays", 7, desk.sum(0, 0, 0));
        desk.sale(0, 0, 1);
        desk.text(0);
        check.due("nor can a text", -1, desk.undo());
    }

    /** Calls that are refused change nothing and aren't undone. */
    private static void refusedChangesNothing() {
        ExemptDesk desk = busy();
        List<Integer> ahead = all(desk);
        for (int no : new int[] {LEAST, -3, 9, 200000, MOST}) {
            desk.sale(no, 0, 1);
            desk.sale(0, no, 1);
            desk.sale(0, 0, no == 9 ? 0 : no);
            desk.buy(no, 0, 1);
            desk.buy(0, no, 1);
            desk.buy(0, 0, no == 9 ? 0 : no);
            desk.late(no, 4, 0, 1);
            desk.late(0, no, 0, 1);
            desk.late(0, 4, no, 1);
            desk.late(0, 4, 0, no == 9 ? 0 : no);
            desk.heads(no, 0, 0);
            desk.heads(0, no, 8);
            desk.heads(0, 0, no == 9 ? 1000 : no);
            desk.acquire(no, 0, 1, 5);
            desk.acquire(0, no, 1, 5);
            desk.acquire(0, 0, no == 9 ? 0 : no, 5);
            desk.acquire(0, 0, 1, no);
            desk.use(no, 0);
            desk.use(0, no);
            desk.sell(no, 0, -1);
            desk.sell(0, no, -1);
            desk.sell(0, 0, no == 9 ? 100000 : no);
            desk.hand(no, 0);
            desk.hand(0, no);
            desk.close(no == 9 ? 0 : no);
            desk.text(no);
        }
        desk.use(2, 1);
        check.due("nothing more to undo", 5, desk.count(10));
        same("refused", ahead, all(desk));
    }

    /** "Nothing is changed by what is asked." */
    private static void askedChangesNothing() {
        ExemptDesk desk = busy();
        List<Integer> ahead = all(desk);
        for (int i = 0; i < 5; i++) {
            desk.by(i, 1, 2, 1, 999);
            desk.bestMethod(i, 1);
            desk.bestStep(i, 1);
            desk.joint(i, 1 - i, 1);
            desk.limitFor(i, 0);
            desk.byBasis(i, 5, 1);
            desk.leader(i);
            desk.need(i, 99);
            desk.room(i, 2);
            desk.would(i, 0);
            desk.bestWait(i, 1);
            desk.project(i, 2);
            desk.ifUse(i, 1);
            desk.even(i, 9);
            desk.tried(16, i, 2);
            desk.chance(i, 8, i);
            desk.fault(i);
            desk.named(i);
            desk.interval(i, 0, 1);
        }
        check.due("nothing more to undo", 5, desk.count(10));
        check.due("no image", -1, desk.back());
        same("asked", ahead, all(desk));
    }

    /** "An IMAGE keeps all but the TAPE, the FAULT, what can be undone"; "(it stays; nothing to undo then)". */
    private static void imageKeepsAll() {
        for (int which = 0; which < ACTS; which++) {
            ExemptDesk desk = busy();
            List<Integer> ahead = all(desk);
            check.due("kept", 6, desk.keep());
            check.due("can be undone yet", 5, desk.count(10));
            act(desk, which);
            desk.acquire(0, 0, 55, 5);
            desk.close(3);
            desk.feed(1, 2, 3, 4, 5);
            desk.text(5);
            desk.feed(1, 2, 3, 4, 5);
            for (int times = 0; times < 2; times++) {
                check.due("back", 6, desk.back());
                check.due("nothing to undo", 0, desk.count(10));
                check.due("nothing to undo", -1, desk.undo());
                check.due("the tape", 20, desk.count(11));
                check.due("the fault", 1, desk.fault(0));
                if (times == 0) {
                    same("image behind act " + which, ahead, all(desk));
                    desk.close(2);
                }
            }
        }
    }

    /** "An IMAGE is kept (in place of one ahead)", in QUARTER 63, too. */
    private static void imageInPlaceOfOneAhead() {
        ExemptDesk desk = Check.desk("trader a 0 0;");
        check.due("none", -1, desk.back());
        check.due("in quarter 0", 0, desk.keep());
        desk.close(16);
        desk.close(16);
        desk.close(16);
        desk.close(15);
        check.due("in quarter 63", 63, desk.keep());
        check.due("back to 63", 63, desk.back());
        check.due("it can't close", -2, desk.close(1));
        check.due("nothing to undo", -1, desk.undo());
    }

    private static void imageGoesWithAText() {
        ExemptDesk desk = Check.desk("trader a 0 0;");
        desk.close(1);
        desk.keep();
        check.due("a text with a fault", -1, Check.tell(desk, ";"));
        check.due("the image stays", 1, desk.back());
        desk.text(-1);
        check.due("by -2, too", 1, desk.back());
        check.due("a text", 0, desk.text(0));
        check.due("no image", -1, desk.back());
        check.due("no traders", 0, desk.count(0));
    }

    /** All eight are as they were by UNDO, as in the IMAGE by back(). */
    private static void eightAssetsKept() {
        ExemptDesk desk = Check.desk("trader a 0 0;trader b 0 0;");
        for (int i = 0; i < 8; i++) {
            desk.acquire(0, 1, 100 + i, 5);
        }
        desk.close(4);
        desk.keep();
        for (int i = 0; i < 8; i++) {
            desk.use(i, 0);
            desk.hand(i, 1);
        }
        desk.close(4);
        desk.undo();
        for (int i = 0; i < 8; i++) {
            check.due("handed " + i, 1, desk.asset(i, 8));
            check.due("owner " + i, 0, desk.asset(i, 0));
            check.due("taken " + i, 0, desk.taken(i));
            check.due("interval 1 of " + i, -999999, desk.interval(i, 1, 0));
        }
        desk.back();
        for (int i = 0; i < 8; i++) {
            check.due("not handed " + i, 0, desk.asset(i, 8));
            check.due("use " + i, 1, desk.asset(i, 1));
        }
    }

    /** A number that UNDO or back() has freed, given to another ASSET: nothing of the one ahead is left. */
    private static void numberOfAnotherAsset() {
        ExemptDesk desk = Check.desk("trader a 0 0;trader b 0 0;");
        desk.acquire(1, 1, 500, 5);
        desk.close(5);
        desk.use(0, 0);
        desk.hand(0, 0);
        desk.sell(0, 0, 70);
        desk.keep();
        desk.close(3);
        check.due("final", 70, desk.last(0));
        for (int i = 0; i < 6; i++) {
            desk.undo();
        }
        check.due("none", 0, desk.count(2));
        desk.close(2);
        check.due("another one", 0, desk.acquire(0, 0, 33, 10));
        int[] fresh = {0, 0, 33, 10, 2, -2, -2, 0, 0, -2};
        for (int what = 0; what < fresh.length; what++) {
            check.due("fresh " + what, fresh[what], desk.asset(0, what));
        }
        check.due("taken", 0, desk.taken(0));
        check.due("last", -999999, desk.last(0));
        check.due("interval", -999999, desk.interval(0, 0, 0));
        desk.close(2);
        desk.use(0, 1);
        desk.close(1);
        desk.sell(0, 1, 9);
        check.due("back", 5, desk.back());
        int[] kept = {1, 0, 500, 5, 0, 0, 0, 0, 0, 0};
        for (int what = 0; what < kept.length; what++) {
            check.due("kept " + what, kept[what], desk.asset(0, what));
        }
        desk.close(3);
        check.due("by the cap of the image", 70, desk.last(0));
        check.due("by the uses of the image", 75, desk.interval(0, 1, 1));
    }

    /** Likewise where back() or a TEXT goes to a time without ASSETS at once. */
    private static void numberOfAnotherAssetAtOnce() {
        ExemptDesk desk = Check.desk("trader a 0 0;trader b 0 0;");
        desk.keep();
        for (int times = 0; times < 4; times++) {
            desk.acquire(0, 1, 500, 5);
            int[] fresh = {0, 1, 500, 5, 0, -2, -2, 0, 0, -2};
            for (int what = 0; what < fresh.length; what++) {
                check.due("fresh " + what, fresh[what], desk.asset(0, what));
            }
            check.due("taken", 0, desk.taken(0));
            check.due("last", -999999, desk.last(0));
            desk.hand(0, 1);
            desk.sell(0, 0, times % 2 == 0 ? 70 : -1);
            desk.close(4);
            check.due("shut", 1, desk.asset(0, 7));
            check.due("final", times % 2 == 0 ? 70 : 400, desk.last(0));
            if (times < 2) {
                check.due("back", 0, desk.back());
            } else {
                check.due("text", 1, Check.tell(desk, "trader a 0 0;"));
                check.due("text", 2, Check.tell(desk, "trader a 0 0;trader b 0 0;"));
            }
        }
    }

    /** Each TRADER has sums, FRACTIONS, entries of its own in each QUARTER, from the first one to the last. */
    private static void rowsOfFourTraders() {
        ExemptDesk desk = Check.desk("trader a 2 0;trader b 2 0;trader c 2 0;trader d 2 0;step 1000;");
        int[] quarters = {0, 1, 3, 4, 61, 62, 63};
        for (int quarter : quarters) {
            while (desk.count(1) < quarter) {
                desk.close(1);
            }
            for (int trader = 0; trader < 4; trader++) {
                desk.heads(trader, 8 * trader + quarter / 9, 40);
                desk.buy(trader, 2, 1000 + 10 * quarter + trader);
            }
        }
        for (int trader = 0; trader < 4; trader++) {
            for (int quarter : quarters) {
                int due = 25 * (8 * trader + quarter / 9);
                int tax = 1000 + 10 * quarter + trader;
                check.due("tax of " + trader + " in " + quarter, tax, desk.sum(trader, quarter, 4));
                check.due("provisional of " + trader + " in " + quarter, due, desk.provisional(trader, quarter));
                check.due("booked of " + trader + " in " + quarter, quarter < 63 ? tax * due / 1000 : -2,
                    desk.recovered(trader, quarter));
            }
            check.due("year 0 of " + trader, 200 * trader, desk.annual(trader, 0, 0));
            check.due("year 14 of " + trader, 200 * trader, desk.annual(trader, 14, 0));
            check.due("year 15 of " + trader, 200 * trader + 175, desk.annual(trader, 15, 0));
        }
    }

    /** "Of several answers that hold NONE goes first, then -2"; "IndexOutOfBoundsException ahead of NoSuchElementException". */
    private static void noneGoesFirst() {
        ExemptDesk desk = Check.desk("trader a 1 0;");
        for (int i = 0; i < 8; i++) {
            desk.acquire(0, 1, 5, 5);
        }
        desk.sell(0, 2, -1);
        for (int quarters = 0; quarters < 2; quarters++) {
            check.due("acquire", -2, desk.acquire(0, 0, 5, 5));
            check.due("acquire, none", -1, desk.acquire(1, 0, 5, 5));
            check.due("sell", -2, desk.sell(0, 0, -1));
            check.due("sell, none", -1, desk.sell(0, 0, -2));
            check.due("hand", -2, desk.hand(0, 0));
            check.due("hand, none", -1, desk.hand(0, 1));
            check.due("provisional", -2, desk.provisional(0, 60));
            check.due("provisional, none", -1, desk.provisional(1, 60));
            check.due("recovered", -2, desk.recovered(0, 60));
            check.due("recovered, none", -1, desk.recovered(0, 64));
            check.due("need", -2, desk.need(0, 100));
            check.due("need, none", -1, desk.need(0, 101));
            check.due("bestWait", -2, desk.bestWait(0, 1));
            check.due("bestWait, none", -1, desk.bestWait(0, 2));
            check.due("limitFor", -2, desk.limitFor(0, 15));
            check.due("limitFor, none", -1, desk.limitFor(1, 15));
            desk.close(4);
        }
        desk.close(16);
        desk.close(16);
        desk.close(16);
        desk.close(7);
        check.due("close", -2, desk.close(16));
        check.due("close, none", -1, desk.close(17));
        check.traderThrows(1, desk, 1, 6);
        check.traderThrows(2, desk, 0, 6);
    }

    /** "NONE for another what", and how far each count goes. */
    private static void counts() {
        ExemptDesk desk = Check.desk("trader a 0 0;trader b 0 0;trader c 0 0;trader d 0 0;step 1000;limit 9999;round near;"
            + "sale a 63 0 1;".repeat(12) + "buy a 63 0 1;".repeat(12) + "asset a 0 0 1 5;".repeat(4));
        for (int i = 0; i < 4; i++) {
            desk.acquire(0, 0, 1, 5);
        }
        for (int i = 0; i < 8; i++) {
            desk.sell(i, 2, -1);
        }
        for (int i = 0; i < 20; i++) {
            desk.heads(0, 0, 0);
        }
        for (int i = 0; i < 36; i++) {
            desk.feed(0, 0, 0, 0, 0);
        }
        int[] due = {4, 0, 8, 0, 0, 1000, 2, 9999, 12, 12, 20, 700, 4};
        for (int what = 0; what < 13; what++) {
            check.due("count " + what, due[what], desk.count(what));
        }
        for (int what : new int[] {LEAST, -1, 13, MOST}) {
            check.due("count " + what, -1, desk.count(what));
        }
        desk.close(16);
        desk.close(16);
        desk.close(16);
        desk.close(15);
        check.due("quarter", 63, desk.count(1));
        check.due("shut", 8, desk.count(3));
        check.due("entries of four traders", 4 * (63 + 15), desk.count(4));
    }
}
