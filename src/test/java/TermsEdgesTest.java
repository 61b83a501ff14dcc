/** "Terms" 2 and 3: QUARTERS, CUTS, FRACTIONS, what is SMALL, ASSETS and DRAWS where they begin and end. */
public final class TermsEdgesTest {
    private static final Check check = new Check();
    private static final String[] WAYS = {"down", "up", "near"};

    public static void main(String[] args) {
        quarter63();
        cutsAboveZero();
        cutsBelowZero();
        cutsOfAdjustedAboveZero();
        cutsOfBackAndFirst();
        cutsOfFinalBelowZero();
        cutsOfFourQuarters();
        fractionOfNothing();
        startInYear0();
        withoutStartInYear0();
        headsWhenClosed();
        closedStays();
        smallByYear();
        smallByQuarter();
        truedByTheLimitTold();
        bookedZeroToo();
        atMostEightAssets();
        intervalZero();
        lastOfFiveIntervals();
        lastOfTenIntervals();
        caps();
        finalWithoutIntervalsBehind();
        lostWithoutFinal();
        handedAndShut();
        lateOfThisYear();
        takenAsSoonAsThrough();
        toldUpToNow();
        worthAsItStands();
        drawsOf31Bits();
        drawsByTurns();
        check.end();
    }

    /** A desk of one TRADER in QUARTER q. */
    private static ExemptDesk inQuarter(int q, String text) {
        ExemptDesk desk = Check.desk(text);
        for (int left = q; left > 0; left -= Math.min(left, 16)) {
            desk.close(Math.min(left, 16));
        }
        check.due("quarter", q, desk.count(1));
        return desk;
    }

    // ---- "Terms" 2

    /** "QUARTERS are numbered from 0 on, 64 at most"; "QUARTER 63 can't CLOSE." */
    private static void quarter63() {
        ExemptDesk desk = inQuarter(62, "trader a 0 0;");
        check.due("63 would close", -2, desk.close(2));
        check.due("62 closes", 1, desk.close(1));
        check.due("63 is now", 63, desk.count(1));
        check.due("63 can't close", -2, desk.close(1));
        check.due("nor with 15 more", -2, desk.close(16));
        check.due("none goes first", -1, desk.close(17));
        check.due("a sale in 63", 9, desk.sale(0, 0, 9));
        check.due("its sum", 9, desk.sum(0, 63, 0));
        check.due("provisional", 100, desk.provisional(0, 63));
        check.due("year 15 as it stands", 100, desk.annual(0, 15, 0));
        check.due("nothing to try", -999999, desk.tried(1, 0, 0));
        check.due("nothing by chance", -999999, desk.chance(0, 1, 0));
        check.due("47 and 16", 19 + 1, inQuarter(47, "trader a 0 0;").close(16));
        check.due("48 and 16", -2, inQuarter(48, "trader a 0 0;").close(16));
    }

    /** "near: the nearest, of two as near the greater one": OWN HEADS, all HEADS, CUT of 100 times these. */
    private static void cutsAboveZero() {
        int[][] cuts = {{0, 7, 0, 0, 0}, {1, 4, 25, 25, 25}, {1, 8, 12, 13, 13}, {1, 3, 33, 34, 33}, {2, 3, 66, 67, 67},
            {1, 200, 0, 1, 1}, {1, 201, 0, 1, 0}, {1, 199, 0, 1, 1}, {3, 200, 1, 2, 2}, {199, 200, 99, 100, 100},
            {200, 201, 99, 100, 100}, {198, 199, 99, 100, 99}, {5, 5, 100, 100, 100}};
        for (int way = 0; way < 3; way++) {
            ExemptDesk desk = Check.desk("trader a 2 0;round " + WAYS[way] + ";");
            for (int[] cut : cuts) {
                desk.heads(0, cut[0], cut[1]);
                check.due(cut[0] + " of " + cut[1] + " " + WAYS[way], cut[2 + way], desk.provisional(0, 0));
            }
        }
    }

    /** What is ADJUSTED by one WORTH, of TAXES 1, 4, 5, 6, 10, 14, 15, 16 by a tenth. */
    private static void adjustedByTenths(int useAhead, int[][] due) {
        int[] taxes = {1, 4, 5, 6, 10, 14, 15, 16};
        for (int way = 0; way < 3; way++) {
            ExemptDesk desk = Check.desk("trader a 2 0;head a 5 10;step 10;round " + WAYS[way] + ";");
            for (int tax : taxes) {
                desk.acquire(0, useAhead, tax, 5);
            }
            desk.close(4);
            for (int i = 0; i < taxes.length; i++) {
                desk.use(i, 2);
            }
            desk.close(4);
            for (int i = 0; i < taxes.length; i++) {
                check.due("a tenth of " + taxes[i] + " " + WAYS[way], due[way][i], desk.interval(i, 1, 2));
            }
        }
    }

    /** "(So also below 0.)" */
    private static void cutsBelowZero() {
        adjustedByTenths(0, new int[][] {{-1, -1, -1, -1, -1, -2, -2, -2}, {0, 0, 0, 0, -1, -1, -1, -1},
            {0, 0, 0, -1, -1, -1, -1, -2}});
    }

    private static void cutsOfAdjustedAboveZero() {
        adjustedByTenths(1, new int[][] {{0, 0, 0, 0, 1, 1, 1, 1}, {1, 1, 1, 1, 1, 2, 2, 2}, {0, 0, 1, 1, 1, 1, 2, 2}});
    }

    /** TAX of KIND 2 and of an ASSET by a half: 1 is .5, 3 is 1.5. */
    private static void cutsOfBackAndFirst() {
        int[][] due = {{0, 1}, {1, 2}, {1, 2}};
        for (int way = 0; way < 3; way++) {
            for (int i = 0; i < 2; i++) {
                ExemptDesk desk = Check.desk("trader a 2 0;head a 1 2;round " + WAYS[way] + ";");
                desk.acquire(0, 2, 1 + 2 * i, 5);
                desk.close(4);
                check.due("back by a half " + WAYS[way], due[way][i], desk.recovered(0, 0));
                check.due("first by a half " + WAYS[way], due[way][i], desk.asset(0, 9));
            }
        }
    }

    /** Of BASE 5, sold exempt with one INTERVAL behind, TAX 4, 5 and 6 give -.4, -.5 and -.6. */
    private static void cutsOfFinalBelowZero() {
        int[][] due = {{-1, -1, -1}, {0, 0, 0}, {0, 0, -1}};
        for (int way = 0; way < 3; way++) {
            ExemptDesk desk = Check.desk("trader a 2 0;head a 5 10;step 10;round " + WAYS[way] + ";");
            for (int i = 0; i < 3; i++) {
                desk.acquire(0, 2, 4 + i, 5);
            }
            desk.close(12);
            for (int i = 0; i < 3; i++) {
                check.due("would " + i + " " + WAYS[way], due[way][i], desk.would(i, 1));
                desk.sell(i, 1, -1);
            }
            desk.close(4);
            for (int i = 0; i < 3; i++) {
                check.due("final " + i + " " + WAYS[way], due[way][i], desk.last(i));
            }
        }
    }

    /** "the four together, CUT by 4": step 10 in k QUARTERS, 0 in the others. */
    private static void cutsOfFourQuarters() {
        int[][] due = {{0, 2, 5, 7, 10}, {0, 3, 5, 8, 10}, {0, 3, 5, 8, 10}};
        for (int way = 0; way < 3; way++) {
            for (int k = 0; k <= 4; k++) {
                ExemptDesk desk = Check.desk("trader a 0 0;step 10;round " + WAYS[way] + ";");
                desk.acquire(0, 1, 100, 5);
                desk.close(4);
                if (k < 4) {
                    desk.close(4 - k);
                }
                if (k > 0) {
                    desk.use(0, 0);
                    desk.close(k);
                }
                check.due(k + " quarters " + WAYS[way], due[way][k], desk.interval(0, 1, 1));
            }
        }
    }

    /** "CUT of step times OWN by ALL; step, if ALL is 0." */
    private static void fractionOfNothing() {
        ExemptDesk desk = Check.desk("trader a 0 0;trader b 1 0;trader c 2 0;step 70;");
        desk.buy(1, 2, 5);
        for (int trader = 0; trader < 3; trader++) {
            check.due("provisional of nothing " + trader, 70, desk.provisional(trader, 0));
            check.due("annual of nothing " + trader, 70, desk.annual(trader, 0, 0));
        }
        desk.sale(0, 1, 1);
        desk.buy(1, 1, 1);
        desk.heads(2, 0, 1);
        for (int trader = 0; trader < 3; trader++) {
            check.due("provisional, own 0 of 1, " + trader, 0, desk.provisional(trader, 0));
            check.due("annual, own 0 of 1, " + trader, 0, desk.annual(trader, 0, 0));
        }
        ExemptDesk own = Check.desk("trader a 0 0;trader b 1 0;trader c 2 0;step 70;head c 1 1;");
        own.sale(0, 0, 1);
        own.buy(1, 0, 1);
        for (int trader = 0; trader < 3; trader++) {
            check.due("own 1 of 1, " + trader, 70, own.provisional(trader, 0));
        }
    }

    /** "in YEAR 0 what start tells (step, if that is more)", ANNUAL of the YEAR ahead behind that. */
    private static void startInYear0() {
        int[][] starts = {{0, 0}, {99, 99}, {100, 100}, {101, 100}, {1000, 100}};
        for (int[] start : starts) {
            ExemptDesk desk = Check.desk("trader a 0 1;start a " + start[0] + ";");
            desk.sale(0, 0, 1);
            desk.sale(0, 1, 3);
            check.due("quarter 0 by start " + start[0], start[1], desk.provisional(0, 0));
            desk.close(3);
            check.due("quarter 3 by start " + start[0], start[1], desk.provisional(0, 3));
            desk.close(1);
            check.due("quarter 4 by annual", 25, desk.provisional(0, 4));
            check.due("as told", start[0], desk.trader(0, 4));
        }
        check.due("start by BASIS 0 counts for nothing", 100, Check.desk("trader a 0 0;start a 7;").provisional(0, 0));
    }

    /** "without it by sums of this QUARTER", in all four of YEAR 0. */
    private static void withoutStartInYear0() {
        ExemptDesk desk = Check.desk("trader a 0 1;");
        int[] due = {100, 50, 33, 25};
        for (int quarter = 0; quarter < 4; quarter++) {
            desk.sale(0, 0, 1);
            if (quarter > 0) {
                desk.sale(0, 1, quarter);
            }
            check.due("quarter " + quarter, due[quarter], desk.provisional(0, quarter));
            desk.close(1);
            check.due("closed quarter " + quarter, due[quarter], desk.provisional(0, quarter));
        }
        check.due("year 0", 40, desk.annual(0, 0, 0));
        desk.sale(0, 1, 5);
        check.due("quarter 4", 40, desk.provisional(0, 4));
    }

    /** "HEADS (as they are when that QUARTER, that YEAR CLOSES; what is told of one that is CLOSED, through, stays)". */
    private static void headsWhenClosed() {
        ExemptDesk desk = Check.desk("trader a 2 0;head a 1 2;");
        desk.buy(0, 2, 100);
        desk.heads(0, 1, 4);
        desk.close(1);
        desk.heads(0, 3, 4);
        check.due("of the quarter that closed", 25, desk.provisional(0, 0));
        check.due("booked by it", 25, desk.recovered(0, 0));
        check.due("of the next", 75, desk.provisional(0, 1));
        check.due("of the year as it stands", 75, desk.annual(0, 0, 0));
        desk.close(2);
        desk.heads(0, 3, 5);
        desk.close(1);
        desk.heads(0, 0, 1);
        check.due("of the last quarter", 60, desk.provisional(0, 3));
        check.due("of the quarter ahead", 75, desk.provisional(0, 2));
        check.due("of the year that is through", 60, desk.annual(0, 0, 0));
        check.due("back by it", 60, desk.annual(0, 0, 1));
        check.due("trued", 35, desk.annual(0, 0, 3));
        check.due("of this year", 0, desk.annual(0, 1, 0));
    }

    /** "LATE: .. what was BOOKED of it stays, ANNUAL and TRUED have it." */
    private static void closedStays() {
        for (int basis = 0; basis < 2; basis++) {
            ExemptDesk desk = Check.desk("trader a 0 " + basis + ";");
            desk.buy(0, 2, 100);
            desk.sale(0, 0, 1);
            desk.sale(0, 1, 1);
            desk.close(1);
            desk.late(0, 0, 1, 2);
            desk.late(0, 0, 4, 100);
            check.due("provisional of what is closed", 50, desk.provisional(0, 0));
            check.due("what was booked", 50, desk.recovered(0, 0));
            check.due("entry", 50, desk.booked(0, 3));
            check.due("annual has it", 25, desk.annual(0, 0, 0));
            check.due("back has it", 50, desk.annual(0, 0, 1));
            check.due("trued has it", 0, desk.annual(0, 0, 3));
            desk.close(3);
            check.due("year 0 is through", 25, desk.annual(0, 0, 0));
            check.due("trued is booked", 0, desk.booked(0, 3));
        }
    }

    /** "If LEFT is no more than a limit, and twice LEFT no more than all TAX": LEFT, KIND 0, whether by limit 10. */
    private static void smallByYear() {
        int[][] taxes = {{0, 0, 1, 0}, {0, 1, 1, 0}, {10, 11, 1, 10}, {10, 10, 1, 10}, {10, 9, 0, -2}, {11, 11, 0, 11},
            {11, 200, 0, 11}, {11, 10, 0, -2}};
        for (int[] tax : taxes) {
            ExemptDesk desk = Check.desk("trader a 0 0;limit 10;");
            desk.buy(0, 1, tax[0]);
            desk.buy(0, 0, tax[1]);
            String which = " of " + tax[0] + ", " + tax[1];
            check.due("small" + which, tax[2], desk.annual(0, 0, 2));
            check.due("back" + which, tax[1] + tax[2] * tax[0], desk.annual(0, 0, 1));
            check.due("limit for it" + which, tax[3], desk.limitFor(0, 0));
            check.due("room at all" + which, tax[2] == 0, desk.room(0, 0) == -2);
        }
    }

    /** "the limit being a fourth of that told (downwards)". */
    private static void smallByQuarter() {
        int[][] limits = {{0, 0}, {3, 0}, {4, 1}, {7, 1}, {8, 2}, {43, 10}, {44, 11}, {9999, 2499}};
        for (int[] limit : limits) {
            for (int more = 0; more < 2; more++) {
                ExemptDesk desk = Check.desk("trader a 0 0;limit " + limit[0] + ";");
                int left = limit[1] + more;
                desk.buy(0, 1, left);
                desk.buy(0, 0, 3000);
                desk.close(1);
                int due = 3000 + (more == 0 ? left : 0);
                check.due("limit " + limit[0] + ", left " + left, due, desk.recovered(0, 0));
                check.due("by basis", due, desk.byBasis(0, 0, 1));
            }
        }
        ExemptDesk half = Check.desk("trader a 0 0;trader b 0 0;limit 40;");
        half.buy(0, 1, 10);
        half.buy(0, 0, 10);
        half.buy(1, 1, 10);
        half.buy(1, 0, 9);
        half.close(1);
        check.due("a half of all tax", 20, half.recovered(0, 0));
        check.due("above a half", 9, half.recovered(1, 0));
    }

    /** "TRUED: BACK by ANNUAL of TAX of the YEAR, by the limit told": 8 LEFT are SMALL, 9 are not. */
    private static void truedByTheLimitTold() {
        for (int more = 0; more < 2; more++) {
            ExemptDesk desk = Check.desk("trader a 0 0;limit 8;");
            for (int quarter = 0; quarter < 4; quarter++) {
                int tax = quarter == 3 ? 2 + more : 2;
                desk.buy(0, 1, tax);
                desk.buy(0, 0, tax);
                desk.close(1);
            }
            check.due("quarter 3", more == 0 ? 4 : 3, desk.recovered(0, 3));
            check.due("trued", more == 0 ? 0 : -6, desk.total(0, 1));
        }
    }

    /** "is BOOKED (SORT 1, 0, too)", SORT 2 and SORT 3 likewise. */
    private static void bookedZeroToo() {
        ExemptDesk desk = Check.desk("trader a 0 0;");
        check.due("without any tax", 5, desk.close(4));
        check.due("trued", 1, desk.booked(0, 2));
        check.due("of 0", 0, desk.booked(0, 3));
        check.due("sort 0", 0, desk.booked(1, 2));
        check.due("of 0", 0, desk.booked(1, 3));
        desk.acquire(0, 0, 100, 5);
        check.due("interval 0 adjusts nothing", 5, desk.close(4));
        desk.sell(0, 0, -1);
        check.due("adjusted and final", 7, desk.close(4));
        check.due("final", 3, desk.booked(0, 2));
        check.due("of 0", 0, desk.booked(0, 3));
        check.due("adjusted", 2, desk.booked(1, 2));
        check.due("of 0", 0, desk.booked(1, 3));
        check.due("shut: nothing more", 5, desk.close(4));
    }

    // ---- "Terms" 3

    /** "ASSETS, at most 8"; told ones: "(not, if there are eight then)". */
    private static void atMostEightAssets() {
        for (int ahead = 4; ahead <= 8; ahead++) {
            ExemptDesk desk = Check.desk("trader a 0 0;asset a 1 0 10 5;asset a 1 1 20 5;asset a 1 2 30 5;asset a 1 0 40 5;");
            for (int i = 0; i < ahead; i++) {
                check.due("number", i, desk.acquire(0, 0, 1, 5));
            }
            desk.close(1);
            check.due("eight", 8, desk.count(2));
            check.due("told", 4, desk.count(12));
            for (int i = ahead; i < 8; i++) {
                check.due("in the order told", 10 * (i - ahead + 1), desk.asset(i, 2));
            }
            check.due("the first", ahead < 8 ? ahead < 5 ? 50 : 10 : 0, desk.sum(0, 1, 2));
            check.due("the second", ahead < 7 ? 20 : 0, desk.sum(0, 1, 3));
            check.due("the third", ahead < 6 ? 30 : 0, desk.sum(0, 1, 4));
            check.due("a ninth", -2, desk.acquire(0, 0, 1, 5));
            check.due("no ninth", -1, desk.asset(8, 0));
            desk.close(1);
            check.due("nor later", 8, desk.count(2));
        }
        ExemptDesk seven = Check.desk("trader a 0 0;");
        for (int i = 0; i < 7; i++) {
            seven.acquire(0, 0, 1, 5);
        }
        check.due("the eighth", 7, seven.acquire(0, 0, 1, 5));
    }

    /** "the YEAR in which it is bought (INTERVAL 0)"; "In INTERVAL 0 USE doesn't change". */
    private static void intervalZero() {
        for (int quarter = 0; quarter < 5; quarter++) {
            ExemptDesk desk = inQuarter(quarter, "trader a 0 0;");
            desk.acquire(0, 0, 100, 5);
            int through = quarter < 4 ? 4 : 8;
            for (int closed = quarter; closed < through - 1; closed++) {
                desk.close(1);
            }
            check.due("the last quarter of it", through - 1, desk.count(1));
            check.due("no other use", false, desk.use(0, 1));
            check.due("no base", -2, desk.asset(0, 5));
            check.due("no first", -2, desk.asset(0, 9));
            check.due("not through", -999999, desk.interval(0, 0, 0));
            check.due("if use", -999999, desk.ifUse(0, 1));
            check.due("even", -3, desk.even(0, 0));
            check.due("behind", 4, desk.sell(0, 2, -1));
            desk.undo();
            desk.close(1);
            check.due("base", 100, desk.asset(0, 5));
            check.due("first", 100, desk.asset(0, 9));
            check.due("its year", through / 4 - 1, desk.interval(0, 0, 0));
            check.due("if use", 0, desk.ifUse(0, 1));
            check.due("even", 100, desk.even(0, 0));
            check.due("another use", true, desk.use(0, 1));
            check.due("behind", 3, desk.sell(0, 2, -1));
        }
    }

    /** "It is SHUT behind its last INTERVAL, too." */
    private static void lastInterval(int intervals, int bought) {
        ExemptDesk desk = inQuarter(bought, "trader a 0 0;");
        desk.acquire(0, 0, 1000, intervals);
        int end = (bought / 4 + intervals) * 4;
        for (int quarter = bought; quarter < end - 1; quarter++) {
            desk.close(1);
        }
        check.due("in the last interval", end - 1, desk.count(1));
        check.due("not shut", 0, desk.asset(0, 7));
        check.due("nobody's but a's", 1, desk.trader(0, 5));
        check.due("none behind", 0, desk.sell(0, 0, -1));
        desk.undo();
        check.due("use", true, desk.use(0, 1));
        desk.undo();
        check.due("wait", 0, desk.bestWait(0, 0));
        check.due("one year left", desk.taken(0), desk.project(0, 1));
        check.due("not two", -999999, desk.project(0, 2));
        check.due("adjusted, no final", 3, desk.close(1));
        check.due("shut", 1, desk.asset(0, 7));
        check.due("count", 1, desk.count(3));
        check.due("nobody's", 0, desk.trader(0, 5));
        check.due("its last one", end / 4 - 1, desk.interval(0, intervals - 1, 0));
        check.due("none behind", -999999, desk.interval(0, intervals, 0));
        check.due("no final", -999999, desk.last(0));
        check.due("sell", -2, desk.sell(0, 0, -1));
        check.due("use", false, desk.use(0, 1));
        check.due("hand", -2, desk.hand(0, 0));
        check.due("nothing more", 5, desk.close(4));
    }

    private static void lastOfFiveIntervals() {
        lastInterval(5, 0);
        lastInterval(5, 3);
        lastInterval(5, 4);
    }

    private static void lastOfTenIntervals() {
        lastInterval(10, 0);
        lastInterval(10, 7);
        ExemptDesk desk = inQuarter(63, "trader a 0 0;");
        check.due("bought in the last quarter", 0, desk.acquire(0, 2, 99999, 10));
        check.due("nine would be behind", 9, desk.sell(0, 1, 0));
    }

    /** "no more than a CAP, if there is one": FINAL is 800, or -800. */
    private static void caps() {
        int[][] caps = {{-1, 800}, {0, 0}, {1, 1}, {799, 799}, {800, 800}, {801, 800}, {99999, 800}};
        for (int[] cap : caps) {
            ExemptDesk desk = Check.desk("trader a 0 0;");
            desk.acquire(0, 1, 1000, 5);
            desk.acquire(0, 0, 1000, 5);
            check.due("would be without a cap", 800, desk.would(0, 0));
            desk.sell(0, 0, cap[0]);
            desk.sell(1, 1, cap[0]);
            desk.close(4);
            check.due("cap " + cap[0], cap[1], desk.last(0));
            check.due("below 0, cap " + cap[0], -800, desk.last(1));
            check.due("together", cap[1] - 800, desk.total(0, 3));
        }
    }

    /** "is BOOKED (SORT 3, 0, too; also if no INTERVAL is behind)". */
    private static void finalWithoutIntervalsBehind() {
        for (int interval = 3; interval <= 4; interval++) {
            ExemptDesk desk = Check.desk("trader a 0 0;");
            desk.acquire(0, 1, 1000, 5);
            desk.close(4 * interval);
            check.due("behind", 4 - interval, desk.sell(0, 0, -1));
            check.due("4 quarters, trued, adjusted, final", 7, desk.close(4));
            check.due("final", interval == 3 ? 200 : 0, desk.last(0));
            check.due("sort 3", 3, desk.booked(0, 2));
            check.due("shut", 1, desk.asset(0, 7));
        }
    }

    /** "One that is LOST (KIND 2): is SHUT behind ADJUSTED without FINAL", also in INTERVAL 0. */
    private static void lostWithoutFinal() {
        ExemptDesk desk = Check.desk("trader a 0 0;");
        desk.acquire(0, 0, 1000, 5);
        desk.acquire(0, 0, 1000, 5);
        desk.sell(0, 2, -1);
        check.due("nothing but trued", 5, desk.close(4));
        check.due("shut", 1, desk.asset(0, 7));
        check.due("first alone", 1000, desk.taken(0));
        check.due("no final", -999999, desk.last(0));
        desk.use(1, 1);
        desk.sell(1, 2, -1);
        check.due("adjusted", 6, desk.close(4));
        check.due("shut, too", 1, desk.asset(1, 7));
        check.due("first and adjusted", 800, desk.taken(1));
        check.due("no final", -999999, desk.last(1));
    }

    /** "the OWNER from the next YEAR on (behind all that is BOOKED at this one's end; also of one that is SHUT then)". */
    private static void handedAndShut() {
        for (int kind = 0; kind < 4; kind++) {
            ExemptDesk desk = Check.desk("trader a 0 0;trader b 0 0;");
            desk.acquire(0, 1, 1000, 5);
            desk.close(kind == 3 ? 16 : 4);
            desk.use(0, 0);
            check.due("to b", 0, desk.hand(0, 1));
            if (kind < 3) {
                desk.sell(0, kind, -1);
            }
            desk.close(3);
            check.due("this year yet", 0, desk.asset(0, 0));
            check.due("its asset", 1, desk.trader(0, 5));
            desk.close(1);
            check.due("the next", 1, desk.asset(0, 0));
            check.due("shut", 1, desk.asset(0, 7));
            check.due("adjusted for a", 200, desk.total(0, 2));
            check.due("final for a", kind == 0 ? 600 : 0, desk.total(0, 3));
            check.due("nothing for b", 0, desk.total(1, 2) + desk.total(1, 3));
            check.due("of the interval", 0, desk.interval(0, kind == 3 ? 4 : 1, 3));
        }
    }

    /** "in a QUARTER of this YEAR that is CLOSED". */
    private static void lateOfThisYear() {
        for (int now = 4; now <= 8; now++) {
            for (int quarter = -1; quarter <= 64; quarter++) {
                ExemptDesk desk = inQuarter(now, "trader a 0 0;");
                boolean closed = quarter >= now / 4 * 4 && quarter < now;
                check.due("late of " + quarter + " in " + now, closed ? 1 : -1, desk.late(0, quarter, 0, 1));
            }
        }
        ExemptDesk last = inQuarter(63, "trader a 0 0;");
        check.due("59 in 63", -1, last.late(0, 59, 0, 1));
        check.due("60 in 63", 1, last.late(0, 60, 0, 1));
        check.due("62 in 63", 1, last.late(0, 62, 0, 1));
        check.due("63 in 63", -1, last.late(0, 63, 0, 1));
    }

    /** "FIRST, as soon as its YEAR is through". */
    private static void takenAsSoonAsThrough() {
        ExemptDesk desk = inQuarter(2, "trader a 0 0;");
        desk.acquire(0, 0, 70, 5);
        check.due("bought", 0, desk.taken(0));
        desk.close(1);
        check.due("quarter 3", 0, desk.taken(0));
        desk.close(1);
        check.due("quarter 4", 70, desk.taken(0));
    }

    /** "a YEAR by its sums up to now (told ones of QUARTERS up to NOW)"; "those told of it (as soon as it is NOW)". */
    private static void toldUpToNow() {
        ExemptDesk desk = Check.desk("trader a 0 0;sale a 0 0 1;sale a 2 1 3;buy a 2 2 100;");
        desk.close(1);
        check.due("quarter 2 is not now", 100, desk.annual(0, 0, 0));
        check.due("its tax", 0, desk.annual(0, 0, 1));
        check.due("its sum", 0, desk.sum(0, 2, 1));
        desk.close(1);
        check.due("quarter 2 is now", 25, desk.annual(0, 0, 0));
        check.due("its tax", 25, desk.annual(0, 0, 1));
        check.due("its sum", 3, desk.sum(0, 2, 1));
    }

    /** "QUARTERS not CLOSED yet by USE as it is now": from the first one of a YEAR to the last. */
    private static void worthAsItStands() {
        int[] due = {0, 25, 50, 75, 0};
        for (int closed = 0; closed <= 4; closed++) {
            ExemptDesk desk = inQuarter(0, "trader a 0 0;");
            desk.acquire(0, 0, 100, 5);
            desk.close(4 + closed);
            desk.use(0, 1);
            check.due("closed quarters " + closed, due[closed], desk.worth(0));
            desk.undo();
            check.due("by the use it has", 100, desk.worth(0));
            check.due("if use", due[closed], desk.ifUse(0, 1));
        }
    }

    /** TAX 9999 back by what the first two DRAWS from a seed on are: 0, 468; 838, 758; 929, 409; 859, 118. */
    private static void drawsOf31Bits() {
        int[] seeds = {0, 1, 2147483647, 2147483646};
        int[][] draws = {{0, 468}, {838, 758}, {929, 409}, {859, 118}};
        for (int i = 0; i < seeds.length; i++) {
            ExemptDesk desk = Check.desk("trader a 0 0;trader b 0 0;step 1000;buy a 0 2 9999;buy b 0 2 9999;");
            int fraction = 1000 * draws[i][0] / (draws[i][0] + draws[i][1]);
            check.due("seed " + seeds[i], 9999 * fraction / 1000, desk.chance(seeds[i], 1, 0));
            check.due("of the other", 9999 * fraction / 1000, desk.chance(seeds[i], 1, 1));
        }
        String text = "trader a 0 0;step 1000;buy a 0 2 9999;";
        check.due("seed -1 is that told", 9999 * 390 / 1000, Check.desk(text + "seed 99999;").chance(-1, 1, 0));
        check.due("another one goes ahead", 0, Check.desk(text + "seed 99999;").chance(0, 1, 0));
        check.due("without, it is 0", 0, Check.desk(text).chance(-1, 1, 0));
        check.due("seed -2", -999999, Check.desk(text).chance(-2, 1, 0));
    }

    /** A DRAW of KIND 0, then one of KIND 1, ahead of each QUARTER: 0, 468, then 988, 117. */
    private static void drawsByTurns() {
        ExemptDesk desk = Check.desk("trader a 0 0;step 1000;buy a 1 2 9999;");
        check.due("nothing in quarter 0", 0, desk.chance(0, 1, 0));
        check.due("quarter 1", 9999 * (1000 * 988 / (988 + 117)) / 1000, desk.chance(0, 2, 0));
        desk.close(1);
        check.due("from 0 on in quarter 1", 0, desk.chance(0, 1, 0));
    }
}
