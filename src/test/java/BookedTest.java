/** Promises 17 to 25: sums, FRACTIONS, what was BOOKED, INTERVALS and what they took. */
public final class BookedTest {
    private static final Check check = new Check();

    public static void main(String[] args) {
        promise17();
        promise18();
        promise18Methods();
        promise19();
        promise19Small();
        promise20();
        promise21();
        promise21Ways();
        promise22();
        promise23();
        promise24();
        promise25();
        check.end();
    }

    private static void promise17() {
        ExemptDesk desk = Check.desk("trader a 0 0;trader b 0 0;sale a 0 1 3;buy b 2 2 4;sale a 0 1 4;");
        check.due("told twice", 7, desk.sum(0, 0, 1));
        check.due("of the other", 0, desk.sum(1, 0, 1));
        check.due("not there yet", 0, desk.sum(1, 2, 4));
        desk.close(2);
        check.due("there", 4, desk.sum(1, 2, 4));
        check.due("quarter 63", 0, desk.sum(0, 63, 0));
        check.due("quarter 64", -1, desk.sum(0, 64, 0));
        check.due("quarter below", -1, desk.sum(0, -1, 0));
        check.due("trader", -1, desk.sum(2, 0, 0));
        check.due("what 5", -1, desk.sum(0, 0, 5));
        check.due("what below", -1, desk.sum(0, 0, -1));
    }

    private static void promise18() {
        ExemptDesk desk = Check.desk("trader a 0 0;trader b 0 1;trader c 0 1;trader d 0 1;start c 30;start d 1000;");
        for (int trader = 0; trader < 4; trader++) {
            desk.sale(trader, 0, 1);
            desk.sale(trader, 1, 1);
        }
        check.due("basis 0", 50, desk.provisional(0, 0));
        check.due("basis 1 without start", 50, desk.provisional(1, 0));
        check.due("start", 30, desk.provisional(2, 0));
        check.due("start above step", 100, desk.provisional(3, 0));
        check.due("to come", -2, desk.provisional(0, 1));
        desk.close(3);
        check.due("start all year", 30, desk.provisional(2, 3));
        desk.late(0, 0, 1, 2);
        check.due("closed, by sums as they were", 50, desk.provisional(0, 0));
        desk.close(1);
        desk.sale(2, 1, 1);
        desk.sale(0, 1, 1);
        check.due("annual of the year ahead", 50, desk.provisional(2, 4));
        check.due("basis 0 by this quarter", 0, desk.provisional(0, 4));
        check.due("last", -2, desk.provisional(0, 63));
        check.due("quarter 64", -1, desk.provisional(0, 64));
        check.due("quarter below", -1, desk.provisional(0, -1));
        check.due("trader", -1, desk.provisional(4, 0));
    }

    private static void promise18Methods() {
        ExemptDesk desk = Check.desk("trader a 0 0;trader b 1 0;trader c 2 0;head c 1 3;step 1000;round near;");
        for (int trader = 0; trader < 3; trader++) {
            desk.sale(trader, 0, 1);
            desk.sale(trader, 1, 6);
            desk.buy(trader, 0, 2);
            desk.buy(trader, 1, 1);
            desk.buy(trader, 2, 999);
        }
        check.due("by sales", 143, desk.provisional(0, 0));
        check.due("by tax", 667, desk.provisional(1, 0));
        check.due("by heads", 333, desk.provisional(2, 0));
        desk.close(1);
        check.due("no sales", 1000, desk.provisional(0, 1));
        check.due("no tax", 1000, desk.provisional(1, 1));
        check.due("heads go on", 333, desk.provisional(2, 1));
        check.due("by sales", 145, desk.recovered(0, 0));
        check.due("by tax", 668, desk.recovered(1, 0));
        check.due("by heads", 335, desk.recovered(2, 0));
    }

    private static void promise19() {
        ExemptDesk desk = Check.desk("trader a 0 0;");
        desk.buy(0, 2, 10);
        desk.buy(0, 1, 5);
        desk.buy(0, 0, 3);
        desk.sale(0, 0, 1);
        desk.sale(0, 1, 2);
        check.due("not closed", -2, desk.recovered(0, 0));
        desk.close(1);
        check.due("3 and 33 of 100 of 10", 6, desk.recovered(0, 0));
        check.due("not closed", -2, desk.recovered(0, 1));
        check.due("quarter 63", -2, desk.recovered(0, 63));
        check.due("quarter 64", -1, desk.recovered(0, 64));
        check.due("quarter below", -1, desk.recovered(0, -1));
        check.due("trader", -1, desk.recovered(1, 0));
    }

    /** The limit of a QUARTER is a fourth of that told, downwards; twice LEFT is no more than all TAX. */
    private static void promise19Small() {
        ExemptDesk desk = Check.desk("trader a 0 0;trader b 0 0;trader c 0 0;limit 43;");
        desk.buy(0, 1, 10);
        desk.buy(0, 0, 10);
        desk.buy(1, 1, 11);
        desk.buy(1, 0, 90);
        desk.buy(2, 1, 10);
        desk.buy(2, 0, 9);
        desk.close(1);
        check.due("small", 20, desk.recovered(0, 0));
        check.due("above a fourth", 90, desk.recovered(1, 0));
        check.due("above a half", 9, desk.recovered(2, 0));
        check.due("small by year", 1, desk.annual(1, 0, 2));
        check.due("trued takes it whole", 11, desk.annual(1, 0, 3));
        check.due("not by year", 0, desk.annual(2, 0, 2));
    }

    private static void promise20() {
        ExemptDesk desk = Check.desk("trader a 0 0;");
        check.due("nothing: step", 100, desk.annual(0, 0, 0));
        check.due("nothing: small", 1, desk.annual(0, 0, 2));
        desk.buy(0, 2, 100);
        desk.sale(0, 0, 1);
        desk.close(1);
        desk.sale(0, 1, 3);
        check.due("annual", 25, desk.annual(0, 0, 0));
        check.due("back", 25, desk.annual(0, 0, 1));
        check.due("not small", 0, desk.annual(0, 0, 2));
        check.due("trued so far", -75, desk.annual(0, 0, 3));
        check.due("what 4", -999999, desk.annual(0, 0, 4));
        check.due("what below", -999999, desk.annual(0, 0, -1));
        check.due("to come", -999999, desk.annual(0, 1, 0));
        check.due("year below", -999999, desk.annual(0, -1, 0));
        check.due("trader", -999999, desk.annual(1, 0, 0));
        desk.close(3);
        check.due("booked", -75, desk.total(0, 1));
        check.due("through", -75, desk.annual(0, 0, 3));
        check.due("next", 100, desk.annual(0, 1, 0));
        desk.close(16);
        desk.close(16);
        desk.close(16);
        desk.close(11);
        check.due("year 15", 100, desk.annual(0, 15, 0));
        check.due("year 16", -999999, desk.annual(0, 16, 0));
    }

    private static void promise21() {
        ExemptDesk desk = Check.desk("trader a 0 0;trader b 0 0;");
        desk.close(5);
        desk.acquire(0, 2, 1000, 5);
        desk.sale(0, 0, 1);
        desk.sale(0, 1, 1);
        desk.hand(0, 1);
        check.due("not through", -999999, desk.interval(0, 0, 0));
        desk.close(3);
        int[] first = {1, 50, 0, 0};
        for (int what = 0; what < 4; what++) {
            check.due("interval 0, " + what, first[what], desk.interval(0, 0, what));
        }
        check.due("not through", -999999, desk.interval(0, 1, 0));
        desk.sale(1, 0, 3);
        desk.sale(1, 1, 1);
        desk.close(2);
        desk.use(0, 1);
        desk.close(2);
        int[] second = {2, 37, -26, 1};
        for (int what = 0; what < 4; what++) {
            check.due("interval 1, " + what, second[what], desk.interval(0, 1, what));
        }
        check.due("what 4", -999999, desk.interval(0, 0, 4));
        check.due("what below", -999999, desk.interval(0, 0, -1));
        check.due("i below", -999999, desk.interval(0, -1, 0));
        check.due("asset", -999999, desk.interval(1, 0, 0));
        desk.close(16);
        check.due("the last", 5, desk.interval(0, 4, 0));
        check.due("none behind", -999999, desk.interval(0, 5, 0));
        check.due("entries of it end", 0, desk.tried(4, 1, 2));
    }

    /** CUTS below 0: -25 of 50 is -1, 0 and, the nearest, 0; -35 of 50 is -1, 0 and -1. */
    private static void promise21Ways() {
        String[] ways = {"down", "up", "near"};
        int[] half = {-1, 0, 0};
        int[] more = {-1, 0, -1};
        for (int way = 0; way < 3; way++) {
            ExemptDesk desk = Check.desk("trader a 2 0;head a 5 10;step 10;round " + ways[way] + ";");
            desk.acquire(0, 2, 5, 5);
            desk.acquire(0, 2, 7, 5);
            desk.close(4);
            desk.use(0, 1);
            desk.use(1, 1);
            desk.close(4);
            check.due("-25 of 50 " + ways[way], half[way], desk.interval(0, 1, 2));
            check.due("-35 of 50 " + ways[way], more[way], desk.interval(1, 1, 2));
            desk.sale(0, 0, 1);
            desk.heads(0, 1, 4);
            check.due("10 of 4 " + ways[way], way == 0 ? 2 : 3, desk.provisional(0, 8));
        }
    }

    private static void promise22() {
        ExemptDesk desk = Check.desk("trader a 2 0;head a 1 2;");
        desk.acquire(0, 2, 1000, 5);
        desk.acquire(0, 2, 1000, 5);
        check.due("not through", 0, desk.taken(0));
        desk.sell(1, 0, -1);
        desk.close(4);
        check.due("first", 500, desk.taken(0));
        check.due("first and final", 900, desk.taken(1));
        desk.use(0, 0);
        desk.close(4);
        check.due("and adjusted", 600, desk.taken(0));
        desk.sell(0, 1, -1);
        desk.close(4);
        check.due("and final", 500, desk.taken(0));
        check.due("asset", -999999, desk.taken(2));
        check.due("asset below", -999999, desk.taken(-1));
    }

    private static void promise23() {
        ExemptDesk desk = Check.desk("trader a 0 0;");
        desk.acquire(0, 1, 1000, 10);
        desk.sell(0, 0, 5);
        check.due("not booked yet", -999999, desk.last(0));
        desk.close(4);
        check.due("capped", 5, desk.last(0));
        check.due("asset", -999999, desk.last(1));
        check.due("asset below", -999999, desk.last(-1));
        desk.undo();
        desk.undo();
        desk.sell(0, 0, -1);
        desk.close(4);
        check.due("without a cap", 900, desk.last(0));
    }

    private static void promise24() {
        ExemptDesk desk = Check.desk("trader a 0 0;");
        desk.buy(0, 0, 7);
        desk.close(1);
        int[] due = {0, 0, 0, 7, -2};
        for (int what = 0; what < 5; what++) {
            check.due("booked(0, " + what + ")", due[what], desk.booked(0, what));
        }
        check.due("what 5", -999999, desk.booked(0, 5));
        check.due("what below", -999999, desk.booked(0, -1));
        check.due("k 1", -999999, desk.booked(1, 0));
        check.due("k below", -999999, desk.booked(-1, 0));
        desk.close(16);
        desk.close(16);
        desk.close(3);
        check.due("entries", 45, desk.count(4));
        check.due("the latest", 35, desk.booked(0, 0));
        check.due("the latest", 1, desk.booked(0, 2));
        check.due("the 40th", 4, desk.booked(39, 0));
        check.due("no 41st", -999999, desk.booked(40, 0));
    }

    private static void promise25() {
        ExemptDesk desk = Check.desk("trader a 0 0;trader b 0 0;");
        desk.buy(0, 2, 100);
        desk.acquire(0, 0, 500, 5);
        desk.close(3);
        desk.sale(0, 1, 1);
        desk.close(1);
        desk.use(0, 1);
        desk.sell(0, 1, -1);
        desk.close(4);
        int[] due = {600, -100, -100, -300};
        for (int sort = 0; sort < 4; sort++) {
            check.due("total " + sort, due[sort], desk.total(0, sort));
            check.due("of the other", 0, desk.total(1, sort));
        }
        check.due("sort 4", -999999, desk.total(0, 4));
        check.due("sort below", -999999, desk.total(0, -1));
        check.due("trader", -999999, desk.total(2, 0));
    }
}
