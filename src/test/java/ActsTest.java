/** Promises 6 to 16: TRADERS, ASSETS and what changes them. */
public final class ActsTest {
    private static final Check check = new Check();

    public static void main(String[] args) {
        promise6();
        promise7();
        promise8();
        promise9();
        promise10();
        promise11();
        promise12();
        promise12Told();
        promise13();
        promise14();
        promise14Kinds();
        promise15();
        promise16();
        promise16Order();
        check.end();
    }

    private static void promise6() {
        ExemptDesk desk = Check.desk("trader a 2 1;trader b 1 0;head a 3 8;start a 900;");
        int[] first = {2, 1, 3, 8, 900, 0};
        int[] second = {1, 0, 0, 0, -2, 0};
        for (int what = 0; what < 6; what++) {
            check.due("trader(0, " + what + ")", first[what], desk.trader(0, what));
            check.due("trader(1, " + what + ")", second[what], desk.trader(1, what));
        }
        desk.acquire(1, 0, 1, 5);
        desk.acquire(0, 0, 1, 5);
        desk.acquire(1, 0, 1, 5);
        check.due("assets of b", 5, desk.trader(1, 5));
        desk.hand(0, 0);
        check.due("owner this year", 5, desk.trader(1, 5));
        desk.sell(2, 0, -1);
        check.due("sold, not shut", 5, desk.trader(1, 5));
        desk.close(4);
        check.due("handed, shut", 0, desk.trader(1, 5));
        check.due("assets of a", 3, desk.trader(0, 5));
        check.traderThrows(1, desk, 2, 0);
        check.traderThrows(1, desk, -1, 0);
        check.traderThrows(1, desk, 4, 6);
        check.traderThrows(2, desk, 0, 6);
        check.traderThrows(2, desk, 1, -1);
        check.traderThrows(0, desk, 1, 5);
    }

    private static void promise7() {
        ExemptDesk desk = Check.desk("trader a 0 0;trader b 0 0;");
        desk.close(2);
        desk.acquire(1, 2, 300, 10);
        int[] fresh = {1, 2, 300, 10, 2, -2, -2, 0, 1, -2};
        for (int what = 0; what < fresh.length; what++) {
            check.due("asset(0, " + what + ")", fresh[what], desk.asset(0, what));
        }
        desk.sale(1, 0, 1);
        desk.sale(1, 1, 3);
        desk.hand(0, 0);
        check.due("owner", 1, desk.asset(0, 0));
        check.due("next owner", 0, desk.asset(0, 8));
        desk.close(2);
        int[] through = {0, 2, 300, 10, 2, 25, -2, 0, 0, 75};
        for (int what = 0; what < through.length; what++) {
            check.due("through asset(0, " + what + ")", through[what], desk.asset(0, what));
        }
        desk.use(0, 1);
        desk.sell(0, 2, -1);
        desk.close(4);
        int[] lost = {0, 1, 300, 10, 2, 25, 2, 1, 0, 75};
        for (int what = 0; what < lost.length; what++) {
            check.due("lost asset(0, " + what + ")", lost[what], desk.asset(0, what));
        }
        check.due("no such what", -1, desk.asset(0, 10));
        check.due("what below", -1, desk.asset(0, -1));
        check.due("no such asset", -1, desk.asset(1, 0));
        check.due("asset below", -1, desk.asset(-1, 0));
    }

    private static void promise8() {
        ExemptDesk desk = Check.desk("trader a 0 0;sale a 1 1 7;");
        check.due("taxable", 5, desk.sale(0, 0, 5));
        check.due("more", 100004, desk.sale(0, 0, 99999));
        check.due("exempt", 1, desk.sale(0, 1, 1));
        desk.close(1);
        check.due("with told", 9, desk.sale(0, 1, 2));
        check.due("trader", -1, desk.sale(1, 0, 5));
        check.due("trader below", -1, desk.sale(-1, 0, 5));
        check.due("kind", -1, desk.sale(0, 2, 5));
        check.due("kind below", -1, desk.sale(0, -1, 5));
        check.due("amount 0", -1, desk.sale(0, 0, 0));
        check.due("amount beyond", -1, desk.sale(0, 0, 100000));
        check.due("undoable", 5, desk.count(10));
    }

    private static void promise9() {
        ExemptDesk desk = Check.desk("trader a 0 0;buy a 0 2 7;");
        check.due("taxable", 5, desk.buy(0, 0, 5));
        check.due("exempt", 9999, desk.buy(0, 1, 9999));
        check.due("both", 8, desk.buy(0, 2, 1));
        check.due("trader", -1, desk.buy(1, 0, 5));
        check.due("kind", -1, desk.buy(0, 3, 5));
        check.due("kind below", -1, desk.buy(0, -1, 5));
        check.due("tax 0", -1, desk.buy(0, 0, 0));
        check.due("tax beyond", -1, desk.buy(0, 0, 10000));
        check.due("as sum", 9999, desk.sum(0, 0, 3));
    }

    private static void promise10() {
        ExemptDesk desk = Check.desk("trader a 0 0;");
        desk.buy(0, 2, 100);
        desk.sale(0, 0, 1);
        check.due("not closed", -1, desk.late(0, 0, 0, 1));
        desk.close(2);
        check.due("exempt sales", 1, desk.late(0, 0, 1, 1));
        check.due("tax", 109, desk.late(0, 0, 4, 9));
        check.due("other quarter", 9999, desk.late(0, 1, 2, 9999));
        check.due("booked stays", 100, desk.recovered(0, 0));
        check.due("provisional stays", 100, desk.provisional(0, 0));
        check.due("annual has it", 50, desk.annual(0, 0, 0));
        check.due("trued has it", 9953, desk.annual(0, 0, 3));
        check.due("now", -1, desk.late(0, 2, 0, 1));
        check.due("quarter below", -1, desk.late(0, -1, 0, 1));
        check.due("trader", -1, desk.late(1, 0, 0, 1));
        check.due("what", -1, desk.late(0, 0, 5, 1));
        check.due("what below", -1, desk.late(0, 0, -1, 1));
        check.due("amount 0", -1, desk.late(0, 0, 0, 0));
        check.due("amount beyond", -1, desk.late(0, 0, 0, 10000));
        desk.close(2);
        check.due("trued is booked", 9953, desk.total(0, 1));
        check.due("year ahead", -1, desk.late(0, 3, 0, 1));
        desk.close(1);
        check.due("this year", 1, desk.late(0, 4, 0, 1));
        check.due("last year", -1, desk.late(0, 3, 0, 1));
    }

    private static void promise11() {
        ExemptDesk desk = Check.desk("trader a 2 0;head a 1 4;");
        check.due("told", 25, desk.provisional(0, 0));
        desk.close(1);
        check.due("others", true, desk.heads(0, 3, 4));
        check.due("now", 75, desk.provisional(0, 1));
        check.due("closed stays", 25, desk.provisional(0, 0));
        desk.close(3);
        check.due("none", true, desk.heads(0, 0, 0));
        check.due("none is all", 100, desk.provisional(0, 4));
        check.due("through stays", 75, desk.annual(0, 0, 0));
        check.due("most", true, desk.heads(0, 999, 999));
        check.due("own beyond all", false, desk.heads(0, 5, 4));
        check.due("all beyond", false, desk.heads(0, 0, 1000));
        check.due("own below", false, desk.heads(0, -1, 4));
        check.due("all below", false, desk.heads(0, -1, -1));
        check.due("trader", false, desk.heads(1, 0, 0));
        check.due("own heads", 999, desk.trader(0, 2));
        check.due("undone", 4, desk.undo());
        check.due("own heads undone", 0, desk.trader(0, 2));
    }

    private static void promise12() {
        ExemptDesk desk = Check.desk("trader a 0 0;");
        check.due("first", 0, desk.acquire(0, 0, 1, 5));
        check.due("its tax", 1, desk.sum(0, 0, 2));
        check.due("second", 1, desk.acquire(0, 1, 99999, 10));
        check.due("its tax", 99999, desk.sum(0, 0, 3));
        check.due("third", 2, desk.acquire(0, 2, 30, 10));
        check.due("its tax", 30, desk.sum(0, 0, 4));
        check.due("trader", -1, desk.acquire(1, 0, 1, 5));
        check.due("use", -1, desk.acquire(0, 3, 1, 5));
        check.due("use below", -1, desk.acquire(0, -1, 1, 5));
        check.due("tax 0", -1, desk.acquire(0, 0, 0, 5));
        check.due("tax beyond", -1, desk.acquire(0, 0, 100000, 5));
        check.due("intervals", -1, desk.acquire(0, 0, 1, 0));
        check.due("intervals 6", -1, desk.acquire(0, 0, 1, 6));
        for (int i = 3; i < 8; i++) {
            check.due("number", i, desk.acquire(0, 0, 1, 5));
        }
        check.due("eight", -2, desk.acquire(0, 0, 1, 5));
        check.due("none ahead of eight", -1, desk.acquire(0, 0, 1, 6));
        check.due("no tax of a ninth", 6, desk.sum(0, 0, 2));
        check.due("undoable", 8, desk.count(10));
        check.due("undone", 7, desk.undo());
        check.due("seven", 7, desk.count(2));
        check.due("tax undone", 5, desk.sum(0, 0, 2));
    }

    /** Told ASSETS come with their QUARTER, in the order told, not beyond eight. */
    private static void promise12Told() {
        ExemptDesk desk = Check.desk("trader a 0 0;trader b 0 0;asset a 1 0 10 5;asset b 0 1 20 5;"
                + "asset b 1 2 30 10;asset a 1 2 40 5;");
        check.due("quarter 0", 1, desk.count(2));
        check.due("its tax", 20, desk.sum(1, 0, 3));
        check.due("none yet", 0, desk.sum(0, 1, 2));
        for (int i = 0; i < 5; i++) {
            desk.acquire(0, 0, 1, 5);
        }
        desk.close(1);
        check.due("eight", 8, desk.count(2));
        check.due("told first", 10, desk.asset(6, 2));
        check.due("told next", 30, desk.asset(7, 2));
        check.due("its quarter", 1, desk.asset(7, 4));
        check.due("not bought", 0, desk.sum(0, 1, 4));
        check.due("told all the same", 4, desk.count(12));
        desk.undo();
        check.due("undone", 6, desk.count(2));
    }

    private static void promise13() {
        ExemptDesk desk = Check.desk("trader a 0 0;");
        desk.acquire(0, 0, 100, 5);
        check.due("interval 0", false, desk.use(0, 1));
        desk.close(4);
        check.due("another", true, desk.use(0, 1));
        check.due("the same", true, desk.use(0, 1));
        check.due("use now", 1, desk.asset(0, 1));
        check.due("use 3", false, desk.use(0, 3));
        check.due("use below", false, desk.use(0, -1));
        check.due("asset", false, desk.use(1, 0));
        desk.close(3);
        desk.use(0, 0);
        check.due("one quarter of four", 25, desk.worth(0));
        desk.close(1);
        check.due("worth", 25, desk.interval(0, 1, 1));
        desk.sell(0, 0, -1);
        check.due("sold", false, desk.use(0, 1));
        desk.undo();
        desk.sell(0, 2, -1);
        check.due("lost", false, desk.use(0, 1));
        desk.close(4);
        check.due("shut", false, desk.use(0, 1));
    }

    private static void promise14() {
        ExemptDesk desk = Check.desk("trader a 0 0;");
        desk.acquire(0, 1, 500, 5);
        desk.acquire(0, 1, 500, 10);
        check.due("kind", -1, desk.sell(0, 3, -1));
        check.due("kind below", -1, desk.sell(0, -1, -1));
        check.due("cap below", -1, desk.sell(0, 0, -2));
        check.due("cap beyond", -1, desk.sell(0, 1, 100000));
        check.due("lost with a cap", -1, desk.sell(0, 2, 5));
        check.due("asset", -1, desk.sell(2, 0, -1));
        check.due("in interval 0", 4, desk.sell(0, 0, 399));
        check.due("sold", -2, desk.sell(0, 0, -1));
        check.due("sold and lost", -2, desk.sell(0, 2, -1));
        check.due("none first", -1, desk.sell(0, 3, -1));
        desk.close(4);
        check.due("capped", 399, desk.last(0));
        check.due("shut", -2, desk.sell(0, 1, -1));
        desk.close(12);
        desk.close(16);
        desk.close(4);
        check.due("in the last interval", 0, desk.sell(1, 0, 0));
        int ahead = desk.count(4);
        desk.close(4);
        check.due("final without intervals behind", 0, desk.last(1));
        check.due("4 quarters, trued, adjusted, final", 7, desk.count(4) - ahead);
    }

    private static void promise14Kinds() {
        ExemptDesk desk = Check.desk("trader a 0 0;");
        desk.acquire(0, 0, 500, 5);
        desk.acquire(0, 1, 500, 5);
        desk.acquire(0, 1, 500, 5);
        desk.acquire(0, 0, 500, 5);
        desk.close(4);
        check.due("exempt", 3, desk.sell(0, 1, 0));
        check.due("taxable", 3, desk.sell(1, 0, 300));
        check.due("lost", 3, desk.sell(2, 2, -1));
        desk.close(4);
        check.due("below 0 under a cap", -300, desk.last(0));
        check.due("no more than the cap", 300, desk.last(1));
        check.due("none of the lost", -999999, desk.last(2));
        check.due("shut", 3, desk.count(3));
        check.due("sums", 0, desk.total(0, 3));
        desk.close(12);
        check.due("shut behind its last interval", 4, desk.count(3));
        check.due("without a final", -999999, desk.last(3));
    }

    private static void promise15() {
        ExemptDesk desk = Check.desk("trader a 0 0;trader b 0 0;trader c 0 0;");
        desk.acquire(0, 2, 500, 5);
        check.due("to b", 0, desk.hand(0, 1));
        check.due("to c", 1, desk.hand(0, 2));
        check.due("back to a", 2, desk.hand(0, 0));
        check.due("to b again", 0, desk.hand(0, 1));
        check.due("trader", -1, desk.hand(0, 3));
        check.due("trader below", -1, desk.hand(0, -1));
        check.due("asset", -1, desk.hand(1, 0));
        desk.close(4);
        check.due("owner", 1, desk.asset(0, 0));
        desk.sale(1, 1, 5);
        desk.hand(0, 2);
        desk.sell(0, 0, -1);
        check.due("sold", -2, desk.hand(0, 0));
        check.due("none first", -1, desk.hand(0, 5));
        desk.close(4);
        check.due("shut", -2, desk.hand(0, 0));
        check.due("owner of the shut one", 2, desk.asset(0, 0));
        check.due("adjusted for b", -100, desk.total(1, 2));
        check.due("final for b", 0, desk.total(1, 3));
        check.due("nothing for c", 0, desk.total(2, 2));
    }

    private static void promise16() {
        ExemptDesk desk = Check.desk("trader a 0 0;trader b 0 0;");
        check.due("0", -1, desk.close(0));
        check.due("17", -1, desk.close(17));
        check.due("below", -1, desk.close(-5));
        check.due("three", 6, desk.close(3));
        check.due("the fourth", 4, desk.close(1));
        check.due("16", 40, desk.close(16));
        check.due("16", 40, desk.close(16));
        check.due("16", 40, desk.close(16));
        check.due("quarter", 52, desk.count(1));
        check.due("12 would close 63", -2, desk.close(12));
        check.due("none first", -1, desk.close(17));
        check.due("11", 26, desk.close(11));
        check.due("quarter", 63, desk.count(1));
        check.due("63 can't", -2, desk.close(1));
        check.due("a sale yet", 5, desk.sale(0, 0, 5));
    }

    /** SORT 0 for all TRADERS, then SORT 1, then ASSETS by number, SORT 2 ahead of SORT 3. */
    private static void promise16Order() {
        ExemptDesk desk = Check.desk("trader a 0 0;trader b 0 0;");
        desk.acquire(1, 0, 50, 5);
        desk.acquire(0, 0, 50, 5);
        desk.close(7);
        desk.sell(0, 0, -1);
        check.due("entries", 7, desk.close(1));
        int[][] due = {{0, 0, -2}, {1, 0, -2}, {0, 1, -2}, {1, 1, -2}, {1, 2, 0}, {1, 3, 0}, {0, 2, 1}};
        for (int i = 0; i < due.length; i++) {
            int k = due.length - 1 - i;
            check.due("quarter of " + i, 7, desk.booked(k, 0));
            check.due("trader of " + i, due[i][0], desk.booked(k, 1));
            check.due("sort of " + i, due[i][1], desk.booked(k, 2));
            check.due("asset of " + i, due[i][2], desk.booked(k, 4));
        }
    }
}
