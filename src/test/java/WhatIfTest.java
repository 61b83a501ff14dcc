/** Promises 26 to 45: other ways, methods and steps, what would do, what is tried. */
public final class WhatIfTest {
    private static final Check check = new Check();

    public static void main(String[] args) {
        promise26();
        promise27();
        promise28();
        promise29();
        promise30();
        promise31();
        promise32();
        promise33();
        promise34();
        promise35();
        promise36();
        promise37();
        promise38();
        promise39();
        promise40();
        promise41();
        promise42();
        promise43();
        promise44();
        promise45();
        check.end();
    }

    /** TAX 100 of KINDS 0 and 1 at 3 : 1, 1000 for both; SALES 1 : 2. */
    private static ExemptDesk shop(String more) {
        ExemptDesk desk = Check.desk("trader a 0 0;" + more);
        desk.buy(0, 0, 75);
        desk.buy(0, 1, 25);
        desk.buy(0, 2, 1000);
        desk.sale(0, 0, 1);
        desk.sale(0, 1, 2);
        return desk;
    }

    private static void promise26() {
        ExemptDesk desk = shop("");
        check.due("as told", 405, desk.by(0, 0, 0, 0, 100));
        check.due("up", 415, desk.by(0, 0, 1, 0, 100));
        check.due("near", 405, desk.by(0, 0, 2, 0, 100));
        check.due("by tax", 825, desk.by(0, 0, 0, 1, 100));
        check.due("by heads: none", 1075, desk.by(0, 0, 0, 2, 100));
        check.due("step 1000", 408, desk.by(0, 0, 0, 0, 1000));
        check.due("step 10", 375, desk.by(0, 0, 0, 0, 10));
        desk.close(4);
        desk.heads(0, 1, 10);
        check.due("heads now", 175, desk.by(0, 0, 0, 2, 100));
        check.due("this year", 0, desk.by(0, 1, 0, 0, 100));
        check.due("to come", -999999, desk.by(0, 2, 0, 0, 100));
        check.due("year below", -999999, desk.by(0, -1, 0, 0, 100));
        check.due("trader", -999999, desk.by(1, 0, 0, 0, 100));
        check.due("way 3", -999999, desk.by(0, 0, 3, 0, 100));
        check.due("way below", -999999, desk.by(0, 0, -1, 0, 100));
        check.due("method 3", -999999, desk.by(0, 0, 0, 3, 100));
        check.due("method below", -999999, desk.by(0, 0, 0, -1, 100));
        check.due("step 9", -999999, desk.by(0, 0, 0, 0, 9));
        check.due("step 1001", -999999, desk.by(0, 0, 0, 0, 1001));
        check.due("small", 1100, shop("limit 500;").by(0, 0, 0, 1, 100));
    }

    private static void promise27() {
        ExemptDesk desk = shop("head a 1 2;");
        check.due("by tax", 1, desk.bestMethod(0, 0));
        desk.heads(0, 4, 5);
        check.due("by heads", 2, desk.bestMethod(0, 0));
        desk.heads(0, 3, 4);
        check.due("the least of two", 1, desk.bestMethod(0, 0));
        desk.sale(0, 0, 1000);
        check.due("by sales", 0, desk.bestMethod(0, 0));
        check.due("to come", -2, desk.bestMethod(0, 1));
        check.due("year 15", -2, desk.bestMethod(0, 15));
        check.due("year 16", -1, desk.bestMethod(0, 16));
        check.due("year below", -1, desk.bestMethod(0, -1));
        check.due("trader", -1, desk.bestMethod(1, 0));
    }

    private static void promise28() {
        ExemptDesk desk = shop("");
        check.due("12 shows a third whole", 12, desk.bestStep(0, 0));
        check.due("up: 10 gives most", 10, shop("round up;").bestStep(0, 0));
        check.due("none: the least", 10, Check.desk("trader a 0 0;").bestStep(0, 0));
        ExemptDesk fine = Check.desk("trader a 0 0;");
        fine.buy(0, 2, 9999);
        fine.sale(0, 0, 999);
        fine.sale(0, 1, 1);
        check.due("999 of 1000", 1000, fine.bestStep(0, 0));
        check.due("to come", -2, desk.bestStep(0, 1));
        check.due("year 16", -1, desk.bestStep(0, 16));
        check.due("year below", -1, desk.bestStep(0, -1));
        check.due("trader", -1, desk.bestStep(1, 0));
    }

    private static void promise29() {
        ExemptDesk desk = Check.desk("trader a 0 0;trader b 2 0;head a 0 1;head b 1 1;limit 15;");
        desk.sale(0, 0, 1);
        desk.sale(1, 1, 3);
        desk.buy(0, 2, 40);
        desk.buy(1, 2, 60);
        check.due("by sales of both", 25, desk.joint(0, 1, 0));
        check.due("by heads of both", 50, desk.joint(1, 0, 0));
        desk.sale(0, 0, 14);
        check.due("not small", 83, desk.joint(0, 1, 0));
        desk.sale(0, 0, 2);
        check.due("small", 100, desk.joint(0, 1, 0));
        check.due("the same", -999999, desk.joint(0, 0, 0));
        check.due("one", -999999, desk.joint(2, 0, 0));
        check.due("other", -999999, desk.joint(0, 2, 0));
        check.due("to come", -999999, desk.joint(0, 1, 1));
        check.due("year below", -999999, desk.joint(0, 1, -1));
        desk.close(4);
        desk.heads(0, 0, 0);
        check.due("heads now", 100, desk.joint(1, 0, 0));
    }

    private static void promise30() {
        ExemptDesk desk = Check.desk("trader a 0 0;");
        check.due("nothing left", 0, desk.limitFor(0, 0));
        desk.buy(0, 1, 10);
        check.due("all left", -2, desk.limitFor(0, 0));
        desk.buy(0, 0, 9);
        check.due("above a half", -2, desk.limitFor(0, 0));
        desk.buy(0, 0, 1);
        check.due("a half", 10, desk.limitFor(0, 0));
        desk.acquire(0, 0, 99999, 5);
        desk.acquire(0, 1, 20000, 5);
        check.due("beyond what may be told", 20010, desk.limitFor(0, 0));
        check.due("to come", -2, desk.limitFor(0, 1));
        check.due("year 16", -1, desk.limitFor(0, 16));
        check.due("year below", -1, desk.limitFor(0, -1));
        check.due("trader", -1, desk.limitFor(1, 0));
    }

    private static void promise31() {
        ExemptDesk desk = Check.desk("trader a 0 0;trader b 2 1;start a 30;head b 1 4;");
        for (int trader = 0; trader < 2; trader++) {
            desk.buy(trader, 2, 100);
            desk.sale(trader, 0, 1);
            desk.sale(trader, 1, 1);
        }
        check.due("not closed", -999999, desk.byBasis(0, 0, 0));
        desk.close(1);
        check.due("by the quarter", 50, desk.byBasis(0, 0, 0));
        check.due("by start", 30, desk.byBasis(0, 0, 1));
        desk.heads(1, 1, 2);
        check.due("heads now", 50, desk.byBasis(1, 0, 0));
        check.due("booked", 25, desk.recovered(1, 0));
        desk.late(0, 0, 0, 2);
        desk.late(0, 0, 4, 100);
        check.due("late sales and tax", 150, desk.byBasis(0, 0, 0));
        check.due("late tax", 60, desk.byBasis(0, 0, 1));
        desk.close(3);
        desk.buy(0, 2, 10);
        desk.buy(1, 2, 10);
        desk.close(1);
        desk.heads(1, 1, 10);
        check.due("no sales: step", 10, desk.byBasis(0, 4, 0));
        check.due("annual of the year ahead", 7, desk.byBasis(0, 4, 1));
        check.due("heads now", 1, desk.byBasis(1, 4, 0));
        check.due("heads of the year ahead", 5, desk.byBasis(1, 4, 1));
        check.due("basis 2", -999999, desk.byBasis(0, 0, 2));
        check.due("basis below", -999999, desk.byBasis(0, 0, -1));
        check.due("now", -999999, desk.byBasis(0, 5, 0));
        check.due("quarter below", -999999, desk.byBasis(0, -1, 0));
        check.due("trader", -999999, desk.byBasis(2, 0, 0));
        ExemptDesk small = Check.desk("trader a 0 0;limit 40;");
        small.buy(0, 1, 10);
        small.buy(0, 0, 50);
        small.close(1);
        check.due("small by a fourth", 60, small.byBasis(0, 0, 1));
        small.late(0, 0, 3, 1);
        check.due("not small", 50, small.byBasis(0, 0, 0));
    }

    private static void promise32() {
        check.due("no traders", -2, Check.desk("").leader(0));
        check.due("no such year first", -1, Check.desk("").leader(16));
        ExemptDesk desk = Check.desk("trader a 0 0;trader b 0 0;trader c 0 0;");
        check.due("the first", 0, desk.leader(0));
        desk.buy(1, 0, 5);
        desk.buy(2, 0, 5);
        desk.buy(0, 1, 9);
        check.due("the first of two", 1, desk.leader(0));
        desk.close(4);
        check.due("through", 1, desk.leader(0));
        check.due("this year", 0, desk.leader(1));
        check.due("to come", -2, desk.leader(2));
        check.due("year below", -1, desk.leader(-1));
    }

    private static void promise33() {
        ExemptDesk desk = Check.desk("trader a 0 0;");
        check.due("none closed", 0, desk.rise(0));
        int[] taxes = {5, 4, 6, 7, 7, 8, 9, 10, 1};
        int[] due = {1, 1, 2, 3, 3, 3, 3, 4, 4};
        for (int i = 0; i < taxes.length; i++) {
            desk.buy(0, 0, taxes[i]);
            desk.close(1);
            check.due("rise " + i, due[i], desk.rise(0));
        }
        check.due("trader", -1, desk.rise(1));
        check.due("trader below", -1, desk.rise(-1));
    }

    private static void promise34() {
        ExemptDesk desk = shop("trader b 1 0;");
        check.due("have it", 0, desk.need(0, 33));
        check.due("half", 1, desk.need(0, 50));
        check.due("99", 197, desk.need(0, 99));
        check.due("all", -2, desk.need(0, 100));
        check.due("none", 0, desk.need(0, 0));
        check.due("beyond", -1, desk.need(0, 101));
        check.due("below", -1, desk.need(0, -1));
        check.due("trader", -1, desk.need(2, 0));
        check.due("method", -2, desk.need(1, 0));
        check.due("none first", -1, desk.need(1, 101));
        check.due("no sales", 0, Check.desk("trader a 0 0;").need(0, 100));
        check.due("up", 1, shop("round up;").need(0, 35));
        ExemptDesk far = Check.desk("trader a 0 0;step 1000;");
        far.sale(0, 1, 99999);
        check.due("999 of 1000", 99899001, far.need(0, 999));
        far.sale(0, 1, 100);
        check.due("99998901 more", 99998901, far.need(0, 999));
        far.sale(0, 1, 1);
        check.due("99999900 more", 99999900, far.need(0, 999));
        far.sale(0, 1, 1);
        check.due("beyond 99999999", -2, far.need(0, 999));
    }

    private static void promise35() {
        ExemptDesk desk = Check.desk("trader a 0 0;limit 40;");
        desk.sale(0, 0, 1);
        desk.sale(0, 1, 1);
        desk.buy(0, 0, 100);
        desk.buy(0, 1, 10);
        check.due("by none", 9999, desk.room(0, 0));
        check.due("exempt", 30, desk.room(0, 1));
        check.due("half of it", 60, desk.room(0, 2));
        desk.buy(0, 1, 31);
        check.due("not small", -2, desk.room(0, 0));
        check.due("kind", -1, desk.room(0, 3));
        check.due("kind below", -1, desk.room(0, -1));
        check.due("trader", -1, desk.room(1, 0));
        ExemptDesk tight = Check.desk("trader a 0 0;limit 9999;");
        tight.buy(0, 0, 10);
        check.due("twice left", 10, tight.room(0, 1));
        check.due("whole", 9999, tight.room(0, 2));
        ExemptDesk wide = Check.desk("trader a 0 0;limit 9998;");
        wide.acquire(0, 0, 50000, 5);
        check.due("the 9999th is too much", 9998, wide.room(0, 1));
        check.due("9999 are not", 9999, Check.desk("trader a 0 0;").room(0, 2));
        ExemptDesk byTax = Check.desk("trader a 1 0;limit 9999;");
        byTax.buy(0, 0, 10);
        byTax.buy(0, 2, 100);
        check.due("its fraction falls, too", 10, byTax.room(0, 1));
    }

    private static void promise36() {
        ExemptDesk desk = Check.desk("trader a 2 0;head a 1 4;");
        desk.acquire(0, 2, 1000, 5);
        check.due("taxable", 600, desk.would(0, 0));
        check.due("exempt", -200, desk.would(0, 1));
        desk.heads(0, 1, 2);
        check.due("base as it stands", 400, desk.would(0, 0));
        desk.close(4);
        check.due("an interval less", 300, desk.would(0, 0));
        check.due("kind 2", -999999, desk.would(0, 2));
        check.due("kind below", -999999, desk.would(0, -1));
        check.due("asset", -999999, desk.would(1, 0));
        desk.close(12);
        check.due("none behind", 0, desk.would(0, 0));
        desk.sell(0, 0, 0);
        check.due("sold", -999999, desk.would(0, 0));
        desk.undo();
        desk.close(4);
        check.due("shut", -999999, desk.would(0, 0));
    }

    private static void promise37() {
        ExemptDesk desk = Check.desk("trader a 2 0;head a 1 2;");
        desk.acquire(0, 2, 1000, 5);
        check.due("exempt: wait", 4, desk.bestWait(0, 1));
        check.due("taxable: at once", 0, desk.bestWait(0, 0));
        desk.close(4);
        check.due("exempt: wait", 3, desk.bestWait(0, 1));
        desk.use(0, 0);
        check.due("all the same: the fewest", 0, desk.bestWait(0, 0));
        check.due("exempt: wait", 3, desk.bestWait(0, 1));
        desk.use(0, 1);
        check.due("exempt, all the same", 0, desk.bestWait(0, 1));
        check.due("kind 2", -1, desk.bestWait(0, 2));
        check.due("kind below", -1, desk.bestWait(0, -1));
        check.due("asset", -1, desk.bestWait(1, 0));
        desk.sell(0, 2, -1);
        check.due("lost", -2, desk.bestWait(0, 0));
        check.due("none first", -1, desk.bestWait(0, 2));
        desk.close(4);
        check.due("shut", -2, desk.bestWait(0, 0));
    }

    private static void promise38() {
        ExemptDesk desk = Check.desk("trader a 2 0;head a 1 2;");
        desk.acquire(0, 2, 1000, 5);
        check.due("first", 500, desk.project(0, 1));
        check.due("no more", 500, desk.project(0, 5));
        check.due("6", -999999, desk.project(0, 6));
        check.due("0", -999999, desk.project(0, 0));
        desk.close(4);
        desk.use(0, 0);
        check.due("a year", 600, desk.project(0, 1));
        check.due("four years", 900, desk.project(0, 4));
        check.due("five", -999999, desk.project(0, 5));
        check.due("asset", -999999, desk.project(1, 1));
        desk.sell(0, 0, -1);
        check.due("sold", -999999, desk.project(0, 1));
        desk.close(4);
        check.due("shut", -999999, desk.project(0, 1));
    }

    private static void promise39() {
        ExemptDesk desk = Check.desk("trader a 2 0;head a 1 2;");
        desk.acquire(0, 0, 1000, 5);
        check.due("interval 0", -999999, desk.ifUse(0, 0));
        desk.close(5);
        check.due("the same", 100, desk.ifUse(0, 0));
        check.due("exempt from the second on", 25, desk.ifUse(0, 1));
        check.due("both from the second on", 62, desk.ifUse(0, 2));
        check.due("use is as it was", 0, desk.asset(0, 1));
        check.due("use 3", -999999, desk.ifUse(0, 3));
        check.due("use below", -999999, desk.ifUse(0, -1));
        check.due("asset", -999999, desk.ifUse(1, 0));
        desk.sell(0, 1, -1);
        check.due("sold", -999999, desk.ifUse(0, 0));
        desk.close(3);
        check.due("shut", -999999, desk.ifUse(0, 0));
    }

    private static void promise40() {
        ExemptDesk desk = Check.desk("trader a 0 0;trader b 0 0;trader c 0 0;");
        desk.acquire(0, 0, 1000, 5);
        check.due("this year", 1, desk.owners(0));
        desk.hand(0, 1);
        check.due("next year does not count", 1, desk.owners(0));
        desk.close(4);
        check.due("two", 2, desk.owners(0));
        desk.hand(0, 0);
        desk.close(4);
        check.due("the first again", 2, desk.owners(0));
        desk.hand(0, 2);
        desk.sell(0, 2, -1);
        desk.close(4);
        check.due("shut: the last one has no interval", 2, desk.owners(0));
        check.due("asset", -1, desk.owners(1));
        check.due("asset below", -1, desk.owners(-1));
    }

    private static void promise41() {
        ExemptDesk desk = Check.desk("trader a 2 0;head a 1 2;");
        desk.acquire(0, 2, 1000, 5);
        check.due("interval 0", -3, desk.even(0, 0));
        check.due("none first", -1, desk.even(0, 100000));
        desk.close(4);
        check.due("even", 50, desk.even(0, 0));
        check.due("1", 51, desk.even(0, 1));
        check.due("all", 100, desk.even(0, 100));
        check.due("by none", -2, desk.even(0, 101));
        check.due("least", 0, desk.even(0, -99999));
        check.due("most", -2, desk.even(0, 99999));
        check.due("beyond", -1, desk.even(0, 100000));
        check.due("below", -1, desk.even(0, -100000));
        check.due("asset", -1, desk.even(1, 0));
        desk.sell(0, 0, -1);
        desk.close(4);
        check.due("shut", 50, desk.even(0, 0));
    }

    private static void promise42() {
        ExemptDesk desk = Check.desk("trader a 0 0;trader b 0 0;round up;");
        desk.acquire(0, 2, 1000, 5);
        check.due("base as it stands", 100, desk.worth(0));
        desk.sale(0, 1, 2);
        desk.sale(0, 0, 1);
        check.due("base as it stands", 34, desk.worth(0));
        desk.close(4);
        desk.sale(0, 1, 1);
        check.due("by this year", 0, desk.worth(0));
        desk.close(1);
        desk.use(0, 0);
        desk.close(1);
        desk.use(0, 2);
        check.due("one quarter of four", 25, desk.worth(0));
        desk.sale(0, 0, 1);
        check.due("100 and 3 times 50, cut up", 63, desk.worth(0));
        desk.sell(0, 0, -1);
        check.due("sold", 63, desk.worth(0));
        desk.close(2);
        check.due("shut", -2, desk.worth(0));
        check.due("asset", -1, desk.worth(1));
        check.due("asset below", -1, desk.worth(-1));
    }

    private static void promise43() {
        ExemptDesk desk = Check.desk("trader a 0 0;trader b 0 0;buy a 1 0 9;buy a 3 2 10;sale a 3 1 1;asset a 2 0 50 5;");
        desk.buy(0, 0, 3);
        desk.buy(0, 2, 100);
        desk.sale(0, 0, 1);
        check.due("one", 103, desk.tried(1, 0, 0));
        check.due("told ones come", 112, desk.tried(2, 0, 0));
        check.due("told assets, too", 162, desk.tried(3, 0, 0));
        check.due("trued", -45, desk.tried(4, 0, 1));
        check.due("the other", 0, desk.tried(4, 1, 0));
        check.due("nothing is changed", 0, desk.count(1));
        check.due("nothing is changed", 0, desk.count(2));
        check.due("0", -999999, desk.tried(0, 0, 0));
        check.due("17", -999999, desk.tried(17, 0, 0));
        check.due("trader", -999999, desk.tried(1, 2, 0));
        check.due("sort 4", -999999, desk.tried(1, 0, 4));
        check.due("sort below", -999999, desk.tried(1, 0, -1));
        desk.close(16);
        desk.close(16);
        desk.close(16);
        check.due("15 are left", 0, desk.tried(15, 0, 0));
        check.due("63 would close", -999999, desk.tried(16, 0, 0));
    }

    /** From 0 on the DRAWS are 12345, then 1406932606: by 65536 these are 0 and 21468. */
    private static void promise44() {
        ExemptDesk desk = Check.desk("trader a 0 0;trader b 0 0;seed 5;");
        desk.buy(0, 2, 9999);
        desk.buy(1, 2, 9999);
        check.due("0 of 468", 0, desk.chance(0, 1, 0));
        check.due("that of the text", chanceByCalls(1, 0), desk.chance(-1, 1, 0));
        check.due("the same", chanceByCalls(1, 0), desk.chance(5, 1, 0));
        check.due("the other", chanceByCalls(1, 1), desk.chance(5, 1, 1));
        check.due("4 quarters, trued", chanceByCalls(4, 0), desk.chance(5, 4, 0));
        check.due("8 quarters", chanceByCalls(8, 1), desk.chance(5, 8, 1));
        desk.chance(Integer.MAX_VALUE, 8, 0);
        check.due("nothing is changed", 0, desk.sum(0, 0, 0));
        check.due("seed least of all", -999999, desk.chance(Integer.MIN_VALUE, 1, 0));
        check.due("seed below", -999999, desk.chance(-2, 1, 0));
        check.due("0", -999999, desk.chance(0, 0, 0));
        check.due("9", -999999, desk.chance(0, 9, 0));
        check.due("trader", -999999, desk.chance(0, 1, 2));
        desk.close(16);
        desk.close(16);
        desk.close(16);
        desk.close(12);
        check.due("63 would close", -999999, desk.chance(0, 4, 0));
        check.due("3 are left", 0, desk.chance(0, 3, 0));
        Check.tell(desk, "trader a 0 0;");
        Check.tell(desk, "trader a 0 0;");
        desk.buy(0, 2, 9999);
        check.due("0 without one told", 0, desk.chance(-1, 1, 0));
    }

    /** What the same desk books from seed 5 on, if the draws are sold by calls. */
    private static long chanceByCalls(int n, int trader) {
        ExemptDesk desk = Check.desk("trader a 0 0;trader b 0 0;");
        desk.buy(0, 2, 9999);
        desk.buy(1, 2, 9999);
        long number = 5;
        for (int i = 0; i < 2 * n; i++) {
            number = (number * 1103515245L + 12345L) % (1L << 31);
            desk.sale(trader, i % 2, (int) (number / 65536 % 1000));
            if (i % 2 == 1) {
                desk.close(1);
            }
        }
        return desk.total(trader, 0) + desk.total(trader, 1);
    }

    private static void promise45() {
        ExemptDesk desk = Check.desk("trader a 0 0;");
        check.due("none through", -2, desk.farthest(0));
        int[] exempt = {3, 1, 0, 3};
        int[] due = {0, 1, 1, 1};
        for (int year = 0; year < 4; year++) {
            desk.buy(0, 2, 100);
            desk.sale(0, 0, 1);
            desk.close(1);
            if (exempt[year] > 0) {
                desk.sale(0, 1, year == 1 ? 99 : exempt[year]);
            }
            desk.close(3);
            check.due("farthest " + year, due[year], desk.farthest(0));
        }
        ExemptDesk level = Check.desk("trader a 0 0;");
        level.close(8);
        check.due("the first", 0, level.farthest(0));
        check.due("trader", -1, desk.farthest(1));
        check.due("trader below", -1, desk.farthest(-1));
    }
}
