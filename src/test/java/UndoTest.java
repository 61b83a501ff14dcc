/** Promises 46 to 49: what can be undone, the IMAGE, counts. */
public final class UndoTest {
    private static final Check check = new Check();

    public static void main(String[] args) {
        promise46();
        promise46Twenty();
        promise46WhatIsNot();
        promise47();
        promise48();
        promise48AfterAnotherPast();
        promise49();
        check.end();
    }

    private static void promise46() {
        ExemptDesk desk = Check.desk("trader a 2 0;trader b 0 0;sale a 4 0 77;");
        check.due("none", -1, desk.undo());
        desk.acquire(0, 0, 500, 5);
        desk.close(4);
        desk.sale(0, 0, 1);
        desk.buy(0, 1, 2);
        desk.heads(0, 1, 2);
        desk.use(0, 1);
        desk.hand(0, 1);
        desk.sell(0, 0, 3);
        desk.close(1);
        desk.late(0, 4, 4, 5);
        check.due("all", 10, desk.count(10));
        check.due("late", 9, desk.undo());
        check.due("late", 0, desk.sum(0, 4, 4));
        check.due("close", 8, desk.undo());
        check.due("close", 4, desk.count(1));
        check.due("close", -2, desk.recovered(0, 4));
        check.due("close", 10, desk.count(4));
        check.due("sell", 7, desk.undo());
        check.due("sell", -2, desk.asset(0, 6));
        check.due("hand", 6, desk.undo());
        check.due("hand", 0, desk.asset(0, 8));
        check.due("use", 5, desk.undo());
        check.due("use", 0, desk.asset(0, 1));
        check.due("heads", 4, desk.undo());
        check.due("heads", 0, desk.trader(0, 3));
        check.due("buy", 3, desk.undo());
        check.due("buy", 0, desk.sum(0, 4, 3));
        check.due("sale", 2, desk.undo());
        check.due("sale", 77, desk.sum(0, 4, 0));
        check.due("close", 1, desk.undo());
        check.due("close", 0, desk.count(4));
        check.due("close", 0, desk.total(0, 0));
        check.due("close", -2, desk.asset(0, 5));
        check.due("acquire", 0, desk.undo());
        check.due("acquire", 0, desk.count(2));
        check.due("none", -1, desk.undo());
    }

    private static void promise46Twenty() {
        ExemptDesk desk = Check.desk("trader a 0 0;");
        for (int i = 1; i <= 45; i++) {
            desk.sale(0, 0, 1);
            check.due("at most 20", Math.min(20, i), desk.count(10));
        }
        for (int i = 19; i >= 10; i--) {
            check.due("left", i, desk.undo());
        }
        check.due("35", 35, desk.sum(0, 0, 0));
        for (int i = 1; i <= 15; i++) {
            desk.sale(0, 0, 10);
        }
        check.due("20 again", 20, desk.count(10));
        for (int i = 19; i >= 0; i--) {
            check.due("left", i, desk.undo());
        }
        check.due("the 25 and the five", 30, desk.sum(0, 0, 0));
        check.due("no more", -1, desk.undo());
    }

    private static void promise46WhatIsNot() {
        ExemptDesk desk = Check.desk("trader a 0 0;");
        desk.sale(0, 0, 1);
        desk.sale(0, 0, 0);
        desk.close(17);
        desk.heads(0, 2, 1);
        desk.keep();
        desk.feed(1, 2, 3, 4, 5);
        desk.tried(5, 0, 0);
        desk.chance(1, 5, 0);
        check.due("the sale alone", 0, desk.undo());
        check.due("the tape stays", 20, desk.count(11));
        check.due("the image stays", 0, desk.back());
        check.due("with the sale", 1, desk.sum(0, 0, 0));
        check.due("-2 is no change", -1, desk.undo());
    }

    private static void promise47() {
        ExemptDesk desk = Check.desk("trader a 0 0;");
        check.due("now", 0, desk.keep());
        desk.close(3);
        check.due("in its place", 3, desk.keep());
        desk.close(2);
        check.due("the latter", 3, desk.back());
        check.due("the undoable stays by keep", -1, desk.undo());
        desk.sale(0, 0, 4);
        desk.keep();
        check.due("keep undoes nothing", 1, desk.count(10));
    }

    private static void promise48() {
        ExemptDesk desk = Check.desk("trader a 2 0;head a 1 2;");
        check.due("none", -1, desk.back());
        desk.acquire(0, 2, 100, 5);
        desk.close(5);
        desk.keep();
        desk.heads(0, 0, 2);
        desk.sale(0, 0, 5);
        desk.sell(0, 0, -1);
        desk.close(8);
        desk.feed(0, 0, 0, 0, 0);
        check.due("back", 5, desk.back());
        check.due("heads", 1, desk.trader(0, 2));
        check.due("sums", 0, desk.sum(0, 5, 0));
        check.due("not sold", -2, desk.asset(0, 6));
        check.due("entries", 6, desk.count(4));
        check.due("not closed", -2, desk.recovered(0, 5));
        check.due("nothing to undo", -1, desk.undo());
        check.due("the tape stays", 20, desk.count(11));
        desk.close(1);
        check.due("it stays", 5, desk.back());
        check.due("unchanged by what came", 6, desk.count(4));
        Check.tell(desk, "");
        check.due("gone with a text", -1, desk.back());
    }

    /** All of an ASSET is as in the IMAGE, though another one has had its number since. */
    private static void promise48AfterAnotherPast() {
        ExemptDesk desk = Check.desk("trader a 2 0;trader b 0 0;head a 1 2;");
        desk.acquire(0, 2, 1000, 5);
        desk.close(8);
        desk.heads(0, 1, 4);
        desk.hand(0, 1);
        desk.sell(0, 0, -1);
        desk.close(4);
        desk.keep();
        for (int i = 0; i < 6; i++) {
            desk.undo();
        }
        desk.heads(0, 0, 1);
        desk.acquire(1, 0, 77, 5);
        desk.hand(0, 0);
        desk.close(4);
        desk.use(0, 1);
        desk.sell(0, 0, 3);
        desk.close(12);
        check.due("back", 12, desk.back());
        int[] asset = {1, 2, 1000, 5, 0, 50, 0, 1, 1, 500};
        for (int what = 0; what < asset.length; what++) {
            check.due("asset(0, " + what + ")", asset[what], desk.asset(0, what));
        }
        int[][] intervals = {{0, 50, 0, 0}, {1, 50, 0, 0}, {2, 25, -50, 0}};
        for (int i = 0; i < 3; i++) {
            for (int what = 0; what < 4; what++) {
                check.due("interval(0, " + i + ", " + what + ")", intervals[i][what], desk.interval(0, i, what));
            }
        }
        check.due("taken", 650, desk.taken(0));
        check.due("last", 200, desk.last(0));
        check.due("provisional", 50, desk.provisional(0, 0));
        check.due("annual", 50, desk.annual(0, 0, 0));
        check.due("annual", 25, desk.annual(0, 2, 0));
    }

    private static void promise49() {
        ExemptDesk desk = Check.desk("trader a 0 0;trader b 0 0;step 20;limit 30;round near;sale a 1 0 1;sale a 2 0 1;"
                + "buy a 1 0 1;asset a 0 0 1 5;asset a 1 0 1 5;asset a 2 0 1 5;");
        desk.feed(1, 2, 3, 4, 5);
        desk.sell(0, 2, -1);
        desk.close(4);
        int[] due = {2, 4, 3, 1, 10, 20, 2, 30, 2, 1, 2, 20, 3};
        for (int what = 0; what < due.length; what++) {
            check.due("count(" + what + ")", due[what], desk.count(what));
        }
        check.due("another what", -1, desk.count(13));
        check.due("what below", -1, desk.count(-1));
    }
}
