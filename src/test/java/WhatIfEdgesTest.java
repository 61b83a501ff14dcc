/** Promises 26 to 45: how far each argument goes, the last that would do, and what none does. */
public final class WhatIfEdgesTest {
    private static final Check check = new Check();
    private static final int NO = -999999;
    private static final int LEAST = Integer.MIN_VALUE;
    private static final int MOST = Integer.MAX_VALUE;
    private static final int[] NO_TRADERS = {LEAST, -1, 2, 4, MOST};
    private static final int[] NO_ASSETS = {LEAST, -1, 1, 8, MOST};

    public static void main(String[] args) {
        promise26();
        promise27();
        promise28();
        promise27And28Years();
        promise29();
        promise30();
        promise30BeyondWhatCanBeTold();
        promise31();
        promise31WithoutStart();
        promise32();
        promise33();
        promise34();
        promise34Fewest();
        promise35();
        promise35ByNone();
        promise35Half();
        promise36();
        promise37();
        promise37Fewest();
        promise38();
        promise39();
        promise40();
        promise41();
        promise41Least();
        promise42();
        promise43();
        promise44();
        promise45();
        check.end();
    }

    /** SALES 1 : 2, TAX 75, 25 and 1000 for both, HEADS 1 of 2. */
    private static ExemptDesk shop(String more) {
        ExemptDesk desk = Check.desk("trader a 0 0;trader b 1 0;head a 1 2;" + more);
        desk.buy(0, 0, 75);
        desk.buy(0, 1, 25);
        desk.buy(0, 2, 1000);
        desk.sale(0, 0, 1);
        desk.sale(0, 1, 2);
        return desk;
    }

    private static ExemptDesk in63(ExemptDesk desk) {
        desk.close(16);
        desk.close(16);
        desk.close(16);
        desk.close(15);
        return desk;
    }

    /** "WAY were 0 down, 1 up, 2 near, METHOD 0 .. 2, step 10 .. 1000". */
    private static void promise26() {
        ExemptDesk desk = shop("");
        check.due("way 0", 75 + 330, desk.by(0, 0, 0, 0, 100));
        check.due("way 1", 75 + 340, desk.by(0, 0, 1, 0, 100));
        check.due("way 2", 75 + 330, desk.by(0, 0, 2, 0, 100));
        check.due("method 1", 75 + 750, desk.by(0, 0, 0, 1, 100));
        check.due("method 2", 75 + 500, desk.by(0, 0, 0, 2, 100));
        check.due("step 10", 75 + 300, desk.by(0, 0, 0, 0, 10));
        check.due("step 1000", 75 + 333, desk.by(0, 0, 0, 0, 1000));
        for (int way : new int[] {LEAST, -1, 3, MOST}) {
            check.due("way " + way, NO, desk.by(0, 0, way, 0, 100));
        }
        for (int method : new int[] {LEAST, -1, 3, MOST}) {
            check.due("method " + method, NO, desk.by(0, 0, 0, method, 100));
        }
        for (int step : new int[] {LEAST, -1, 0, 9, 1001, MOST}) {
            check.due("step " + step, NO, desk.by(0, 0, 0, 0, step));
        }
        for (int trader : NO_TRADERS) {
            check.due("trader " + trader, NO, desk.by(trader, 0, 0, 0, 100));
        }
        for (int year : new int[] {LEAST, -1, 1, 15, 16, MOST}) {
            check.due("year " + year, NO, desk.by(0, year, 0, 0, 100));
        }
        check.due("told as it was", 100, desk.count(5));
        check.due("year 15", 0, in63(desk).by(0, 15, 0, 0, 100));
        check.due("year 16", NO, desk.by(0, 16, 0, 0, 100));
        check.due("year 0", 75 + 330, desk.by(0, 0, 0, 0, 100));
        desk.heads(0, 1, 4);
        check.due("heads now", 75 + 250, desk.by(0, 0, 0, 2, 100));
        check.due("by the limit told", 1100, shop("limit 275;").by(0, 0, 0, 1, 100));
        check.due("one less", 825, shop("limit 274;").by(0, 0, 0, 1, 100));
    }

    /** "METHOD by which BACK .. is greatest, the least of several". */
    private static void promise27() {
        ExemptDesk desk = Check.desk("trader a 2 0;");
        check.due("no tax: all the same", 0, desk.bestMethod(0, 0));
        desk.buy(0, 2, 100);
        check.due("step for each", 0, desk.bestMethod(0, 0));
        desk.sale(0, 1, 1);
        check.due("1 and 2 alike", 1, desk.bestMethod(0, 0));
        desk.buy(0, 1, 1);
        check.due("2 alone", 2, desk.bestMethod(0, 0));
        desk.heads(0, 0, 1);
        check.due("all alike", 0, desk.bestMethod(0, 0));
        desk.heads(0, 1, 100);
        check.due("by one of 100", 2, desk.bestMethod(0, 0));
        desk.sale(0, 0, 1);
        check.due("by sales", 0, desk.bestMethod(0, 0));
    }

    /** "The step 10 .. 1000 by which BACK .. is greatest, the least of several". */
    private static void promise28() {
        check.due("no tax: the least", 10, Check.desk("trader a 0 0;").bestStep(0, 0));
        ExemptDesk most = Check.desk("trader a 2 0;head a 998 999;");
        most.buy(0, 2, 9990);
        check.due("998 of 999", 999, most.bestStep(0, 0));
        ExemptDesk last = Check.desk("trader a 0 0;");
        last.sale(0, 0, 999);
        last.sale(0, 1, 1);
        last.buy(0, 2, 9999);
        check.due("999 of 1000", 1000, last.bestStep(0, 0));
        ExemptDesk up = Check.desk("trader a 0 0;round up;");
        up.sale(0, 0, 999);
        up.sale(0, 1, 1);
        up.buy(0, 2, 9999);
        check.due("up: whole by the least", 10, up.bestStep(0, 0));
        ExemptDesk beyond = Check.desk("trader a 0 0;");
        beyond.sale(0, 0, 1000);
        beyond.sale(0, 1, 1);
        beyond.buy(0, 2, 1001);
        check.due("999 by 501 and more, 1000 by 1001 alone", 501, beyond.bestStep(0, 0));
        check.due("a third of 1000", 12, shop("").bestStep(0, 0));
        check.due("by any step told", 12, shop("step 777;").bestStep(0, 0));
    }

    /** "-2: it is still to come; NONE: no such ones." */
    private static void promise27And28Years() {
        ExemptDesk desk = shop("");
        for (int times = 0; times < 2; times++) {
            int now = times == 0 ? 0 : 15;
            for (int year = -1; year <= 17; year++) {
                boolean known = year >= 0 && year <= 15;
                check.due("method " + year, !known ? -1 : year > now ? -2 : 0, Math.min(0, desk.bestMethod(0, year)));
                check.due("step " + year, !known ? -1 : year > now ? -2 : 0, Math.min(0, desk.bestStep(0, year)));
                check.due("limit " + year, !known ? -1 : year > now || year == 0 ? -2 : 0, desk.limitFor(0, year));
                check.due("leader " + year, !known ? -1 : year > now ? -2 : 0, desk.leader(year));
            }
            for (int trader : NO_TRADERS) {
                for (int year : new int[] {0, 15, 16}) {
                    check.due("none first, method", -1, desk.bestMethod(trader, year));
                    check.due("none first, step", -1, desk.bestStep(trader, year));
                    check.due("none first, limit", -1, desk.limitFor(trader, year));
                }
            }
            in63(desk);
        }
        for (int year : new int[] {LEAST, MOST}) {
            check.due("method " + year, -1, desk.bestMethod(0, year));
            check.due("step " + year, -1, desk.bestStep(0, year));
            check.due("limit " + year, -1, desk.limitFor(0, year));
            check.due("leader " + year, -1, desk.leader(year));
        }
    }

    /** "two unlike TRADERS .. as if they were one: sums of both, HEADS of both together as they are now". */
    private static void promise29() {
        ExemptDesk desk = Check.desk("trader a 0 0;trader b 2 0;head a 999 999;head b 0 999;limit 50;");
        desk.buy(0, 2, 50);
        desk.buy(1, 2, 50);
        desk.sale(1, 1, 3);
        desk.sale(0, 0, 2);
        check.due("by sales: 60 left are not small", 40, desk.joint(0, 1, 0));
        check.due("by heads: 50 left are small", 100, desk.joint(1, 0, 0));
        desk.heads(1, 0, 998);
        check.due("999 of 1997", 100, desk.joint(1, 0, 0));
        desk.heads(0, 998, 999);
        check.due("998 of 1997", 49, desk.joint(1, 0, 0));
        check.due("the same one", NO, desk.joint(0, 0, 0));
        check.due("the same one", NO, desk.joint(1, 1, 0));
        for (int trader : NO_TRADERS) {
            check.due("one " + trader, NO, desk.joint(trader, 0, 0));
            check.due("other " + trader, NO, desk.joint(0, trader, 0));
        }
        for (int year : new int[] {LEAST, -1, 1, 15, 16, MOST}) {
            check.due("year " + year, NO, desk.joint(0, 1, year));
        }
        desk.close(4);
        desk.buy(0, 2, 1000);
        desk.sale(1, 0, 1);
        desk.close(3);
        desk.sale(1, 1, 3);
        desk.close(1);
        check.due("year 1", 250, desk.joint(0, 1, 1));
        check.due("year 2", 0, desk.joint(0, 1, 2));
        desk.buy(1, 2, 400);
        check.due("year 1 without the quarter behind it", 250, desk.joint(0, 1, 1));
        check.due("year 2", 400, desk.joint(0, 1, 2));
        desk.undo();
        desk.undo();
        desk.undo();
        desk.undo();
        desk.undo();
        desk.undo();
        desk.undo();
        check.due("year 15", 0, in63(desk).joint(0, 1, 15));
        check.due("year 0", 40, desk.joint(0, 1, 0));
        check.due("year 16", NO, desk.joint(0, 1, 16));
    }

    /** "The least limit .. by which BACK .. is SMALL": by it it is, by one less it is not; "-2: by none". */
    private static void promise30() {
        int[][] taxes = {{0, 0, 0}, {1, 0, -2}, {1, 1, 1}, {2, 1, -2}, {10, 10, 10}, {10, 9, -2}, {9999, 9999, 9999}};
        for (int[] tax : taxes) {
            int due = tax[2];
            for (int limit = Math.max(0, due - 1); limit <= Math.max(0, due); limit++) {
                ExemptDesk desk = Check.desk("trader a 0 0;limit " + limit + ";");
                desk.buy(0, 1, tax[0]);
                desk.buy(0, 0, tax[1]);
                check.due("of " + tax[0] + ", " + tax[1], due, desk.limitFor(0, 0));
                check.due("small by " + limit, limit == due ? 1 : 0, desk.annual(0, 0, 2));
            }
        }
        ExemptDesk desk = Check.desk("trader a 2 0;head a 1 2;");
        desk.buy(0, 2, 99);
        check.due("50 of 99 left", -2, desk.limitFor(0, 0));
        desk.buy(0, 2, 1);
        check.due("50 of 100 left", 50, desk.limitFor(0, 0));
        desk.close(4);
        desk.heads(0, 0, 1);
        check.due("by annual of the year that is through", 50, desk.limitFor(0, 0));
    }

    /** "The least limit, in place of that told": LEFT of an ASSET may be more than the 9999 that a TEXT may tell. */
    private static void promise30BeyondWhatCanBeTold() {
        ExemptDesk desk = Check.desk("trader a 0 0;limit 9999;");
        desk.acquire(0, 0, 99999, 5);
        desk.acquire(0, 1, 9999, 5);
        check.due("small", 1, desk.annual(0, 0, 2));
        check.due("by 9999", 9999, desk.limitFor(0, 0));
        desk.buy(0, 1, 1);
        check.due("not small", 0, desk.annual(0, 0, 2));
        check.due("by 10000", 10000, desk.limitFor(0, 0));
    }

    /** "in a QUARTER that is CLOSED by BASIS 0, 1 (sums as they are now, LATE ones too; BASIS 0: HEADS as they are now)". */
    private static void promise31() {
        ExemptDesk desk = Check.desk("trader a 0 0;trader b 2 1;start a 101;start b 10;head b 1 2;limit 40;");
        desk.buy(0, 2, 100);
        desk.buy(1, 2, 100);
        desk.sale(0, 0, 1);
        desk.sale(0, 1, 1);
        check.due("none is closed", NO, desk.byBasis(0, 0, 0));
        desk.close(1);
        check.due("basis 0", 50, desk.byBasis(0, 0, 0));
        check.due("basis 1: start, no more than step", 100, desk.byBasis(0, 0, 1));
        check.due("by the basis it hasn't", 50, desk.byBasis(1, 0, 0));
        check.due("by that it has", 10, desk.byBasis(1, 0, 1));
        desk.heads(1, 9, 10);
        check.due("heads now: 10 left are small", 100, desk.byBasis(1, 0, 0));
        desk.late(1, 0, 4, 10);
        check.due("late tax: 11 left are not", 99, desk.byBasis(1, 0, 0));
        desk.late(0, 0, 0, 2);
        check.due("late sales", 75, desk.byBasis(0, 0, 0));
        check.due("what was booked stays", 50, desk.recovered(0, 0));
        check.due("now", NO, desk.byBasis(0, 1, 0));
        for (int trader : NO_TRADERS) {
            check.due("trader " + trader, NO, desk.byBasis(trader, 0, 0));
        }
        for (int quarter : new int[] {LEAST, -1, 1, 2, 63, 64, MOST}) {
            check.due("quarter " + quarter, NO, desk.byBasis(0, quarter, 0));
        }
        for (int basis : new int[] {LEAST, -1, 2, MOST}) {
            check.due("basis " + basis, NO, desk.byBasis(0, 0, basis));
        }
        desk.close(3);
        desk.buy(1, 2, 100);
        desk.close(1);
        desk.heads(1, 0, 1);
        check.due("quarter 3 by start", 0, desk.byBasis(1, 3, 1));
        check.due("quarter 4 by the year ahead", 100, desk.byBasis(1, 4, 1));
        check.due("quarter 4 by heads now", 0, desk.byBasis(1, 4, 0));
        check.due("quarter 62", 0, in63(Check.desk("trader a 0 0;")).byBasis(0, 62, 1));
        check.due("quarter 63", NO, in63(Check.desk("trader a 0 0;")).byBasis(0, 63, 1));
    }

    /** "in YEAR 0 what start tells .., without it by sums of this QUARTER" (as they are now). */
    private static void promise31WithoutStart() {
        ExemptDesk desk = Check.desk("trader a 0 1;");
        for (int quarter = 0; quarter < 5; quarter++) {
            desk.buy(0, 2, 100);
            desk.sale(0, 0, 1);
            desk.sale(0, 1, quarter == 0 ? 1 : 3);
            desk.close(1);
        }
        check.due("quarter 0", 50, desk.byBasis(0, 0, 1));
        check.due("quarter 3", 25, desk.byBasis(0, 3, 1));
        check.due("quarter 4 by the year ahead: 4 of 14", 28, desk.byBasis(0, 4, 1));
        ExemptDesk late = Check.desk("trader a 0 1;");
        late.buy(0, 2, 100);
        late.sale(0, 0, 1);
        late.sale(0, 1, 1);
        late.close(1);
        late.late(0, 0, 1, 2);
        check.due("late ones, too", 25, late.byBasis(0, 0, 1));
        check.due("not what was booked", 50, late.recovered(0, 0));
    }

    /** "the first; -2: it is still to come, no TRADERS; NONE: no such YEAR." */
    private static void promise32() {
        ExemptDesk none = new ExemptDesk();
        check.due("no traders", -2, none.leader(0));
        check.due("no traders, year 15", -2, none.leader(15));
        check.due("no traders, year 16", -1, none.leader(16));
        check.due("no traders, year -1", -1, none.leader(-1));
        ExemptDesk desk = Check.desk("trader a 0 0;trader b 0 0;trader c 0 0;trader d 0 0;limit 5;");
        check.due("all alike", 0, desk.leader(0));
        desk.buy(3, 0, 1);
        check.due("the last alone", 3, desk.leader(0));
        desk.buy(1, 0, 1);
        check.due("the first of two", 1, desk.leader(0));
        desk.buy(2, 0, 5);
        desk.buy(1, 0, 4);
        check.due("alike at 5", 1, desk.leader(0));
        desk.buy(2, 1, 5);
        check.due("5 left are small", 2, desk.leader(0));
        desk.buy(2, 1, 1);
        check.due("6 are not", 1, desk.leader(0));
    }

    /** "more each time than in the one ahead (one alone counts; 0: none is CLOSED)". */
    private static void promise33() {
        ExemptDesk desk = Check.desk("trader a 0 0;trader b 0 0;");
        check.due("none is closed", 0, desk.rise(0));
        int[] taxes = {3, 3, 4, 5, 4, 5, 6, 7, 8};
        int[] due = {1, 1, 2, 3, 3, 3, 3, 4, 5};
        for (int i = 0; i < taxes.length; i++) {
            desk.buy(0, 0, taxes[i]);
            check.due("not yet " + i, i == 0 ? 0 : due[i - 1], desk.rise(0));
            desk.close(1);
            check.due("rise " + i, due[i], desk.rise(0));
        }
        check.due("nothing each time", 1, desk.rise(1));
        for (int trader : NO_TRADERS) {
            check.due("trader " + trader, -1, desk.rise(trader));
        }
        ExemptDesk up = Check.desk("trader a 0 0;");
        for (int quarter = 0; quarter < 63; quarter++) {
            up.buy(0, 0, quarter + 1);
            up.close(1);
        }
        check.due("all 63", 63, up.rise(0));
    }

    /** "a FRACTION 0 .. step. -2: by none, METHOD is not 0; NONE: no such ones." */
    private static void promise34() {
        ExemptDesk desk = shop("step 70;");
        check.due("fraction 0", 0, desk.need(0, 0));
        check.due("fraction of step", -2, desk.need(0, 70));
        check.due("fraction of step less 1", 137, desk.need(0, 69));
        for (int fraction : new int[] {LEAST, -1, 71, 1000, MOST}) {
            check.due("fraction " + fraction, -1, desk.need(0, fraction));
            check.due("none first", -1, desk.need(1, fraction));
        }
        for (int trader : NO_TRADERS) {
            check.due("trader " + trader, -1, desk.need(trader, 0));
        }
        check.due("method 1", -2, desk.need(1, 0));
        check.due("method 2", -2, Check.desk("trader a 2 0;").need(0, 0));
        desk.close(4);
        check.due("this year: none sold, step", 0, desk.need(0, 70));
    }

    /** "The fewest SALES of KIND 0 more, 0 .. 99999999": with them it is so, with one less it is not. */
    private static void promise34Fewest() {
        for (String way : "down up near".split(" ")) {
            for (int fraction = 1; fraction < 100; fraction++) {
                ExemptDesk desk = Check.desk("trader a 0 0;round " + way + ";");
                desk.sale(0, 1, 97);
                int need = desk.need(0, fraction);
                desk.sale(0, 0, need);
                check.due("with them " + fraction, true, desk.annual(0, 0, 0) >= fraction);
                desk.undo();
                desk.sale(0, 0, need - 1);
                check.due("with one less " + fraction, true, desk.annual(0, 0, 0) < fraction);
            }
        }
        check.due("near: step with 199 of 1", 199, oneExempt("round near;").need(0, 100));
        check.due("up: step with 100 of 1", 100, oneExempt("round up;").need(0, 100));
        check.due("down: step by none", -2, oneExempt("").need(0, 100));
        check.due("up: 1 with 1", 1, oneExempt("round up;").need(0, 1));
        check.due("nothing sold: step", 0, Check.desk("trader a 0 0;").need(0, 100));
        ExemptDesk far = Check.desk("trader a 0 0;step 1000;");
        far.sale(0, 1, 99999);
        far.sale(0, 1, 101);
        check.due("999 times 100100", 99999900, far.need(0, 999));
        far.sale(0, 1, 1);
        check.due("999 times 100101 is too much", -2, far.need(0, 999));
        far.sale(0, 0, 899);
        check.due("100000000 more would do", -2, far.need(0, 999));
        far.sale(0, 0, 1);
        check.due("99999999 more", 99999999, far.need(0, 999));
        far.sale(0, 0, 1);
        check.due("99999998 more", 99999998, far.need(0, 999));
    }

    private static ExemptDesk oneExempt(String more) {
        ExemptDesk desk = Check.desk("trader a 0 0;" + more);
        desk.sale(0, 1, 1);
        return desk;
    }

    /** "less one; -2: it is not SMALL without; .. NONE: no such ones." */
    private static void promise35() {
        ExemptDesk desk = Check.desk("trader a 2 0;trader b 0 0;limit 10;");
        desk.buy(0, 0, 100);
        for (int left = 0; left <= 10; left++) {
            check.due("room with " + left, 10 - left, desk.room(0, 1));
            desk.buy(0, 1, 1);
        }
        check.due("not small", -2, desk.room(0, 1));
        check.due("not small, kind 0", -2, desk.room(0, 0));
        check.due("not small, kind 2", -2, desk.room(0, 2));
        for (int kind : new int[] {LEAST, -1, 3, MOST}) {
            check.due("kind " + kind, -1, desk.room(0, kind));
        }
        for (int trader : NO_TRADERS) {
            check.due("trader " + trader, -1, desk.room(trader, 0));
        }
        desk.close(4);
        check.due("this year", 0, desk.room(0, 1));
    }

    /** "The fewest TAX more, 1 .. 9999, .. less one; 9999: by none". */
    private static void promise35ByNone() {
        for (int left = 0; left <= 2; left++) {
            ExemptDesk desk = Check.desk("trader a 0 0;limit 9999;");
            desk.acquire(0, 0, 99999, 5);
            check.due("nothing left: by none", 9999, desk.room(0, 1));
            if (left > 0) {
                desk.buy(0, 1, left);
                check.due("left " + left, 9999 - left, desk.room(0, 1));
            }
            check.due("taxable: by none", 9999, desk.room(0, 0));
            check.due("for both by all: by none", 9999, desk.room(0, 2));
        }
        check.due("no limit, nothing left", 0, Check.desk("trader a 0 0;").room(0, 1));
        check.due("no limit, kind 0", 9999, Check.desk("trader a 0 0;").room(0, 0));
    }

    /** "twice LEFT no more than all TAX" bounds the room, too. */
    private static void promise35Half() {
        ExemptDesk desk = Check.desk("trader a 2 0;head a 0 1;limit 9999;");
        desk.buy(0, 0, 7);
        check.due("as much as kind 0", 7, desk.room(0, 1));
        check.due("as much as kind 0", 7, desk.room(0, 2));
        desk.heads(0, 1, 2);
        check.due("a half of each one: by none", 9999, desk.room(0, 2));
        desk.heads(0, 49, 100);
        check.due("49 of 100: of 302, 155 are left, of all 309", 301, desk.room(0, 2));
    }

    /** "KIND 0 or 1; -999999: no such ones, it is SHUT, SOLD, LOST." */
    private static void promise36() {
        ExemptDesk desk = Check.desk("trader a 2 0;trader b 0 0;head a 1 4;");
        check.due("of none", NO, desk.would(0, 0));
        desk.acquire(0, 2, 1000, 5);
        for (int interval = 0; interval < 5; interval++) {
            check.due("kind 0 in " + interval, 150 * (4 - interval), desk.would(0, 0));
            check.due("kind 1 in " + interval, -50 * (4 - interval), desk.would(0, 1));
            for (int kind : new int[] {LEAST, -1, 2, MOST}) {
                check.due("kind " + kind, NO, desk.would(0, kind));
            }
            for (int kind = 0; kind < 3; kind++) {
                desk.sell(0, kind, -1);
                check.due("sold, lost", NO, desk.would(0, 0));
                desk.undo();
            }
            desk.close(4);
        }
        check.due("shut", NO, desk.would(0, 0));
        for (int asset : NO_ASSETS) {
            check.due("asset " + asset, NO, desk.would(asset, 0));
        }
    }

    /** "-2: it is SHUT, SOLD, LOST; NONE: no such ones." */
    private static void promise37() {
        ExemptDesk desk = Check.desk("trader a 2 0;head a 1 2;");
        check.due("of none", -1, desk.bestWait(0, 0));
        desk.acquire(0, 2, 1000, 5);
        for (int interval = 0; interval < 5; interval++) {
            check.due("at once in " + interval, 0, desk.bestWait(0, 0));
            check.due("to the last in " + interval, 4 - interval, desk.bestWait(0, 1));
            for (int kind : new int[] {LEAST, -1, 2, MOST}) {
                check.due("kind " + kind, -1, desk.bestWait(0, kind));
            }
            for (int kind = 0; kind < 3; kind++) {
                desk.sell(0, kind, -1);
                check.due("sold, lost", -2, desk.bestWait(0, 0));
                check.due("none first", -1, desk.bestWait(0, 2));
                desk.undo();
            }
            desk.close(4);
        }
        check.due("shut", -2, desk.bestWait(0, 0));
        check.due("none first", -1, desk.bestWait(0, -1));
        for (int asset : NO_ASSETS) {
            check.due("asset " + asset, -1, desk.bestWait(asset, 0));
        }
    }

    /** "most together; of several the fewest": of a year's ADJUSTED against what a year of FINAL is. */
    private static void promise37Fewest() {
        ExemptDesk desk = Check.desk("trader a 2 0;head a 1 2;");
        desk.acquire(0, 2, 1000, 5);
        desk.close(4);
        int[][] waits = {{0, 0, 0}, {1, 0, 3}, {50, 0, 3}, {99, 0, 3}, {100, 0, 3}};
        for (int[] wait : waits) {
            desk.heads(0, wait[0], 100);
            check.due("taxable, worth " + wait[0], wait[1], desk.bestWait(0, 0));
            check.due("exempt, worth " + wait[0], wait[2], desk.bestWait(0, 1));
        }
        ExemptDesk up = Check.desk("trader a 2 0;head a 1 2;round up;");
        up.acquire(0, 2, 1, 5);
        up.close(4);
        up.heads(0, 51, 100);
        check.due("up: 1, 2, 3 and 3 together", 2, up.bestWait(0, 0));
        check.due("up: 0, 1, 2 and 3 together", 3, up.bestWait(0, 1));
    }

    /** "n 1 .. as many as INTERVALS are left with this one". */
    private static void promise38() {
        ExemptDesk desk = Check.desk("trader a 2 0;head a 1 2;");
        check.due("of none", NO, desk.project(0, 1));
        desk.acquire(0, 2, 1000, 5);
        for (int interval = 0; interval < 5; interval++) {
            for (int n : new int[] {LEAST, -1, 0, 6 - interval, 11, MOST}) {
                check.due("n " + n + " in " + interval, NO, desk.project(0, n));
            }
            if (interval > 0) {
                desk.use(0, 0);
            }
            for (int n = 1; n <= 5 - interval; n++) {
                int due = interval == 0 ? 500 : 500 + 100 * (interval - 1 + n);
                check.due("n " + n + " in " + interval, due, desk.project(0, n));
            }
            for (int kind = 0; kind < 3; kind++) {
                desk.sell(0, kind, -1);
                check.due("sold, lost", NO, desk.project(0, 1));
                desk.undo();
            }
            desk.close(4);
        }
        check.due("shut", NO, desk.project(0, 1));
        for (int asset : NO_ASSETS) {
            check.due("asset " + asset, NO, desk.project(asset, 1));
        }
    }

    /** "neither SHUT nor SOLD, LOST, not in its INTERVAL 0". */
    private static void promise39() {
        ExemptDesk desk = Check.desk("trader a 2 0;head a 1 2;");
        check.due("of none", NO, desk.ifUse(0, 0));
        desk.acquire(0, 2, 1000, 5);
        desk.close(3);
        check.due("in its interval 0", NO, desk.ifUse(0, 0));
        desk.close(1);
        check.due("use 0", 100, desk.ifUse(0, 0));
        check.due("use 1", 0, desk.ifUse(0, 1));
        check.due("use 2", 50, desk.ifUse(0, 2));
        for (int use : new int[] {LEAST, -1, 3, MOST}) {
            check.due("use " + use, NO, desk.ifUse(0, use));
        }
        for (int kind = 0; kind < 3; kind++) {
            desk.sell(0, kind, -1);
            check.due("sold, lost", NO, desk.ifUse(0, 0));
            desk.undo();
        }
        desk.close(15);
        check.due("in its last interval", 62, desk.ifUse(0, 0));
        desk.close(1);
        check.due("shut", NO, desk.ifUse(0, 0));
        for (int asset : NO_ASSETS) {
            check.due("asset " + asset, NO, desk.ifUse(asset, 0));
        }
    }

    /** "in INTERVALS that are through, and this YEAR, if it is not SHUT". */
    private static void promise40() {
        ExemptDesk desk = Check.desk("trader a 0 0;trader b 0 0;trader c 0 0;trader d 0 0;");
        check.due("of none", -1, desk.owners(0));
        desk.acquire(0, 0, 1000, 5);
        int[] to = {1, 2, 3, 0, 1};
        int[] due = {1, 2, 3, 4, 4, 4};
        for (int year = 0; year < 5; year++) {
            check.due("year " + year, due[year], desk.owners(0));
            desk.hand(0, to[year]);
            check.due("handed in year " + year, due[year], desk.owners(0));
            desk.close(4);
        }
        check.due("shut", 4, desk.owners(0));
        desk.acquire(0, 0, 1000, 5);
        desk.hand(1, 1);
        desk.sell(1, 2, -1);
        check.due("lost, not shut", 1, desk.owners(1));
        desk.close(4);
        check.due("shut: who comes then doesn't count", 1, desk.owners(1));
        desk.acquire(3, 0, 1000, 5);
        check.due("another trader's, in its first year", 1, desk.owners(2));
        desk.close(4);
        check.due("in its second", 1, desk.owners(2));
        desk.close(16);
        check.due("shut", 1, desk.owners(2));
        for (int asset : new int[] {LEAST, -1, 3, 8, MOST}) {
            check.due("asset " + asset, -1, desk.owners(asset));
        }
    }

    /** "m from -99999 to 99999; -2: by none; -3: its INTERVAL 0 is not through; NONE: no such ones." */
    private static void promise41() {
        ExemptDesk desk = Check.desk("trader a 2 0;head a 1 2;");
        check.due("of none", -1, desk.even(0, 0));
        desk.acquire(0, 2, 1000, 5);
        for (int quarter = 0; quarter < 4; quarter++) {
            check.due("interval 0 is not through", -3, desk.even(0, 0));
            for (int m : new int[] {LEAST, -100000, 100000, MOST}) {
                check.due("none first, m " + m, -1, desk.even(0, m));
            }
            desk.close(1);
        }
        check.due("m -99999", 0, desk.even(0, -99999));
        check.due("m 99999", -2, desk.even(0, 99999));
        for (int m : new int[] {LEAST, -100000, 100000, MOST}) {
            check.due("m " + m, -1, desk.even(0, m));
        }
        for (int asset : NO_ASSETS) {
            check.due("asset " + asset, -1, desk.even(asset, 0));
        }
        desk.close(16);
        check.due("shut", 50, desk.even(0, 0));
    }

    /** "The least WORTH 0 .. step by which what is ADJUSTED .. is m or more": 2 by each WORTH, of BASE 50. */
    private static void promise41Least() {
        ExemptDesk desk = Check.desk("trader a 2 0;head a 1 2;");
        desk.acquire(0, 2, 1000, 5);
        desk.close(4);
        int[][] due = {{-101, 0}, {-100, 0}, {-99, 1}, {-98, 1}, {-97, 2}, {-1, 50}, {0, 50}, {1, 51}, {2, 51}, {3, 52},
            {98, 99}, {99, 100}, {100, 100}, {101, -2}};
        for (int[] m : due) {
            check.due("m " + m[0], m[1], desk.even(0, m[0]));
        }
        ExemptDesk up = Check.desk("trader a 2 0;head a 1 2;round up;");
        up.acquire(0, 2, 1, 10);
        up.close(4);
        check.due("up: 1 by one more", 51, up.even(0, 1));
        check.due("up: 0 by all", 0, up.even(0, 0));
        check.due("up: 2 by none", -2, up.even(0, 2));
    }

    /** "(INTERVAL 0: BASE AS IT STANDS); -2: it is SHUT; NONE: no such ASSET." */
    private static void promise42() {
        ExemptDesk desk = Check.desk("trader a 2 0;head a 1 2;");
        check.due("of none", -1, desk.worth(0));
        desk.acquire(0, 2, 1000, 5);
        check.due("interval 0", 50, desk.worth(0));
        desk.close(3);
        desk.heads(0, 1, 4);
        check.due("base as it stands", 25, desk.worth(0));
        desk.close(1);
        check.due("base", 25, desk.asset(0, 5));
        desk.sell(0, 2, -1);
        desk.close(3);
        check.due("lost, not shut", 25, desk.worth(0));
        desk.close(1);
        check.due("shut", -2, desk.worth(0));
        for (int asset : NO_ASSETS) {
            check.due("asset " + asset, -1, desk.worth(asset));
        }
    }

    /** "n 1 .. 16 QUARTERS", "a SORT 0 .. 3"; "-999999: no such ones, QUARTER 63 would CLOSE." */
    private static void promise43() {
        ExemptDesk desk = Check.desk("trader a 0 0;trader b 2 0;head b 1 2;asset b 0 2 1000 5;buy a 15 0 7;");
        check.due("n 1", 500, desk.tried(1, 1, 0));
        check.due("n 15", 0, desk.tried(15, 0, 0));
        check.due("n 16", 7, desk.tried(16, 0, 0));
        check.due("sort 3", 0, desk.tried(16, 1, 3));
        for (int n : new int[] {LEAST, -1, 0, 17, 64, MOST}) {
            check.due("n " + n, NO, desk.tried(n, 0, 0));
        }
        for (int trader : NO_TRADERS) {
            check.due("trader " + trader, NO, desk.tried(1, trader, 0));
        }
        for (int sort : new int[] {LEAST, -1, 4, MOST}) {
            check.due("sort " + sort, NO, desk.tried(1, 0, sort));
        }
        check.due("nothing has come", 0, desk.count(1));
        desk.close(5);
        desk.use(0, 0);
        desk.sell(0, 0, 299);
        check.due("adjusted by three quarters of four", 74, desk.tried(3, 1, 2));
        check.due("final by its cap", 299, desk.tried(3, 1, 3));
        check.due("not before the year ends", 0, desk.tried(2, 1, 3));
        check.due("once", 299, desk.tried(16, 1, 3));
        check.due("all of it by chance, too", 373, desk.chance(0, 3, 1));
        desk.undo();
        desk.undo();
        desk.undo();
        desk.close(16);
        desk.close(16);
        desk.close(15);
        check.due("63 by 16", 0, desk.tried(16, 0, 0));
        desk.close(1);
        check.due("63 would close by 16", NO, desk.tried(16, 0, 0));
        check.due("63 by 15", 0, desk.tried(15, 0, 0));
        desk.close(15);
        check.due("63 would close", NO, desk.tried(1, 0, 0));
    }

    /** "n 1 .. 8 QUARTERS from a seed 0 .. 2147483647 on (-1: that of the TEXT)". */
    private static void promise44() {
        ExemptDesk desk = Check.desk("trader a 0 0;trader b 0 0;seed 2;buy a 7 0 9;buy a 8 0 9;");
        check.due("n 7", 0, desk.chance(0, 7, 0));
        check.due("n 8", 9, desk.chance(0, 8, 0));
        for (int n : new int[] {LEAST, -1, 0, 9, 16, MOST}) {
            check.due("n " + n, NO, desk.chance(0, n, 0));
        }
        for (int seed : new int[] {LEAST, -1000, -2}) {
            check.due("seed " + seed, NO, desk.chance(seed, 1, 0));
        }
        for (int seed : new int[] {-1, 0, 1, MOST - 1, MOST}) {
            check.due("seed " + seed, 0, desk.chance(seed, 1, 0));
        }
        for (int trader : NO_TRADERS) {
            check.due("trader " + trader, NO, desk.chance(0, 1, trader));
        }
        check.due("nothing has come", 0, desk.sum(0, 0, 0) + desk.sum(0, 0, 1));
        desk.close(16);
        desk.close(16);
        desk.close(16);
        desk.close(7);
        check.due("63 by 8", 0, desk.chance(0, 8, 0));
        desk.close(1);
        check.due("63 would close by 8", NO, desk.chance(0, 8, 0));
        check.due("63 by 7", 0, desk.chance(0, 7, 0));
        desk.close(7);
        check.due("63 would close", NO, desk.chance(0, 1, 0));
    }

    /** "farthest from 0, the first; -2: none is through; NONE: no such TRADER." */
    private static void promise45() {
        ExemptDesk desk = Check.desk("trader a 0 0;trader b 0 0;");
        int[] late = {0, 5, 5, 6, 3};
        int[] due = {0, 1, 1, 3, 3};
        for (int year = 0; year < 5; year++) {
            desk.close(3);
            check.due("not through " + year, year == 0 ? -2 : due[year - 1], desk.farthest(0));
            if (late[year] > 0) {
                desk.late(0, 4 * year, 2, late[year]);
            }
            desk.close(1);
            check.due("through " + year, due[year], desk.farthest(0));
        }
        desk.buy(0, 2, 7);
        desk.close(1);
        desk.sale(0, 1, 1);
        desk.close(3);
        check.due("trued", -7, desk.total(0, 1) - 19);
        check.due("below 0 counts, too", 5, desk.farthest(0));
        check.due("all alike: the first", 0, desk.farthest(1));
        for (int trader : NO_TRADERS) {
            check.due("trader " + trader, -1, desk.farthest(trader));
        }
    }
}
