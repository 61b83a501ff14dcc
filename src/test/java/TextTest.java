/** Promises 1 to 5: a new object, the TAPE, the TEXT, its FAULTS and names. */
public final class TextTest {
    private static final Check check = new Check();

    public static void main(String[] args) {
        promise1();
        promise2();
        promise3();
        promise3TextsThatStand();
        promise3StartsAnew();
        promise4();
        promise4Order();
        promise5();
        check.end();
    }

    private static void promise1() {
        ExemptDesk desk = new ExemptDesk();
        int[] counts = {0, 0, 0, 0, 0, 100, 0, 0, 0, 0, 0, 0, 0};
        for (int what = 0; what < counts.length; what++) {
            check.due("new count " + what, counts[what], desk.count(what));
        }
        check.due("new fault", 0, desk.fault(0));
        check.due("new place", -1, desk.fault(1));
        check.due("new undo", -1, desk.undo());
        check.due("new back", -1, desk.back());
        check.due("new close", 0, desk.close(16));
        check.due("NONE", -1, ExemptDesk.NONE);
    }

    private static void promise2() {
        ExemptDesk desk = new ExemptDesk();
        for (int i = 1; i <= 35; i++) {
            check.due("feed " + i, 20 * i, desk.feed(-1, 0, Integer.MIN_VALUE, Integer.MAX_VALUE, i));
        }
        check.due("feed beyond 700", -1, desk.feed(1, 2, 3, 4, 5));
        check.due("bytes", 700, desk.count(11));
        check.due("text of 701", -2, desk.text(701));
        check.due("text of 700", -1, desk.text(700));
        check.due("bytes after text", 0, desk.count(11));
        check.due("feed again", 20, desk.feed(0x73746570, 0x20313233, 0x3b202020, 0, 0));
        check.due("step 123;", 1, desk.text(9));
        check.due("step", 123, desk.count(5));
    }

    private static void promise3() {
        ExemptDesk desk = new ExemptDesk();
        Check.feed(desk, "step 20;limit 7;");
        check.due("n below 0", -2, desk.text(-1));
        check.due("n least of all", -2, desk.text(Integer.MIN_VALUE));
        check.due("n beyond", -2, desk.text(21));
        check.due("tape stays", 20, desk.count(11));
        check.due("first 8 bytes", 1, desk.text(8));
        check.due("tape empty", 0, desk.count(11));
        check.due("step told", 20, desk.count(5));
        check.due("limit not told", 0, desk.count(7));
        check.due("empty text", 0, desk.text(0));
        check.due("step untold", 100, desk.count(5));
        check.due("blanks alone", 0, Check.tell(desk, " \n \n"));
    }

    private static void promise3TextsThatStand() {
        ExemptDesk desk = new ExemptDesk();
        check.due("no blanks needed", 2, Check.tell(desk, "trader abcdef0 1;head abcdef 000002 00999;"));
        check.due("own", 2, desk.trader(0, 2));
        check.due("all", 999, desk.trader(0, 3));
        check.due("lines, blanks 10", 1, Check.tell(desk, "\n\nround\n near\n; \n"));
        check.due("near", 2, desk.count(6));
        check.due("up", 1, Check.tell(desk, "round up;"));
        check.due("up", 1, desk.count(6));
        check.due("down", 1, Check.tell(desk, "round down;"));
        check.due("down", 0, desk.count(6));
        check.due("edges", 9, Check.tell(desk, "step 1000;limit 9999;seed 99999;trader a 2 1;start a 1000;"
                + "sale a 63 1 99999;buy a 63 2 9999;asset a 63 2 9999 10;asset a 0 0 1 5;"));
        check.due("limit", 9999, desk.count(7));
        check.due("sales told", 1, desk.count(8));
        check.due("buys told", 1, desk.count(9));
        check.due("assets told", 2, desk.count(12));
        check.due("assets now", 1, desk.count(2));
        check.due("near words of the language", 4,
            Check.tell(desk, "trader hear 0 0;trader uown 0 0;trader u 0 0;trader seeds 0 0;"));
        check.due("least", 4, Check.tell(desk, "step 10;limit 0;seed 0;trader z 0 0;"));
        StringBuilder most = new StringBuilder("trader a 0 0;");
        for (int i = 0; i < 12; i++) {
            most.append("sale a 0 0 1;buy a 0 0 1;");
        }
        check.due("12 sales, 12 buys", 25, Check.tell(desk, most.toString()));
        check.due("12 sales", 12, desk.sum(0, 0, 0));
        check.due("12 buys", 12, desk.sum(0, 0, 2));
    }

    private static void promise3StartsAnew() {
        ExemptDesk desk = Check.desk("trader a 0 0;sale a 0 0 5;asset a 0 1 3 5;");
        desk.sale(0, 1, 9);
        desk.keep();
        desk.close(5);
        check.due("told at once", 5, desk.sum(0, 0, 0));
        check.due("with a fault", -1, Check.tell(desk, "trader b 0 0;sale b 0 0 5;trader"));
        check.due("all else stays", 5, desk.count(1));
        check.due("undo stays", 2, desk.count(10));
        check.due("name stays", 0, desk.named(Check.packed("a")));
        check.due("no new name", -1, desk.named(Check.packed("b")));
        check.due("image stays", 0, desk.back());
        desk.close(5);
        check.due("another text", 1, Check.tell(desk, "trader b 0 0;"));
        int[] counts = {1, 0, 0, 0, 0, 100, 0, 0, 0, 0, 0, 0, 0};
        for (int what = 0; what < counts.length; what++) {
            check.due("count " + what + " after text", counts[what], desk.count(what));
        }
        check.due("no sums", 0, desk.sum(0, 0, 0));
        check.due("no totals", 0, desk.total(0, 0));
        check.due("nothing booked", -999999, desk.booked(0, 0));
        check.due("no image", -1, desk.back());
        check.due("nothing to undo", -1, desk.undo());
        check.due("not closed", -2, desk.recovered(0, 0));
    }

    private static void faulty(String text, int fault, int place) {
        ExemptDesk desk = new ExemptDesk();
        check.due(text, -1, Check.tell(desk, text));
        check.due(text + " fault", fault, desk.fault(0));
        check.due(text + " place", place, desk.fault(1));
    }

    private static void promise4() {
        String a = "trader a 0 0;";
        faulty(";", 1, 0);
        faulty("5;", 1, 0);
        faulty("Step 10;", 1, 0);
        faulty(" $", 1, 1);
        faulty("step\t10;", 1, 4);
        faulty("step 10;\r", 1, 8);
        faulty("step \u00e9;", 1, 5);
        faulty("down;", 1, 0);
        faulty("steps 10;", 1, 0);
        faulty("step", 1, 4);
        faulty("step  ", 1, 6);
        faulty("step 10", 1, 7);
        faulty("step 10 10;", 1, 8);
        faulty("step ten;", 1, 5);
        faulty("step -10;", 1, 5);
        faulty("trader abcdefg 0 0;", 1, 7);
        faulty("trader near 0 0;", 1, 7);
        faulty("trader 5 0 0;", 1, 7);
        faulty("trader a 0 0 ;;", 1, 14);
        faulty("round;", 1, 5);
        faulty("round sideways;", 1, 6);
        faulty("round step;", 1, 6);
        faulty("trader a 3 0;", 2, 9);
        faulty("trader a 0 2;", 2, 11);
        faulty("trader a 99999999999999999999 0;", 2, 9);
        faulty("trader a 4294967296 0;", 2, 9);
        faulty(a + "trader b 0 0;trader c 0 0;trader d 0 0; trader a up", 2, 53);
        faulty(a + "head a 1000 1000;", 2, 20);
        faulty(a + "head a 0 1000;", 2, 22);
        faulty(a + "head a 2 1;", 2, 22);
        faulty(a + "start a 1001;", 2, 21);
        faulty("step 9;", 2, 5);
        faulty("step 1001;", 2, 5);
        faulty("limit 10000;", 2, 6);
        faulty("seed 100000;", 2, 5);
        faulty(a + "sale a 64 0 1;", 2, 20);
        faulty(a + "sale a 0 2 1;", 2, 22);
        faulty(a + "sale a 0 0 0;", 2, 24);
        faulty(a + "sale a 0 0 100000;", 2, 24);
        faulty(a + "buy a 64 0 1;", 2, 19);
        faulty(a + "buy a 0 3 1;", 2, 21);
        faulty(a + "buy a 0 0 0;", 2, 23);
        faulty(a + "buy a 0 0 10000;", 2, 23);
        faulty(a + "asset a 64 0 1 5;", 2, 21);
        faulty(a + "asset a 0 3 1 5;", 2, 23);
        faulty(a + "asset a 0 0 0 5;", 2, 25);
        faulty(a + "asset a 0 0 10000 5;", 2, 25);
        faulty(a + "asset a 0 0 1 6;", 2, 27);
        faulty(a + "asset a 0 0 1 0;", 2, 27);
        faulty(a + "asset a 0 0 1 99999999999;", 2, 27);
        faulty(a + "asset a 0 0 1 5;".repeat(4) + "asset", 2, 77);
        faulty(a + "sale a 0 0 1;".repeat(12) + "sale b", 2, 169);
        faulty(a + "buy a 0 0 1;".repeat(12) + "buy", 2, 157);
        faulty(a + "trader a 5 0;", 3, 20);
        faulty(a + "head a 0 0;head a 0 0;", 3, 29);
        faulty(a + "start a 0;start a 0;", 3, 29);
        faulty("round up;round up;", 3, 9);
        faulty("step 10;step 9;", 3, 8);
        faulty("limit 10;limit", 3, 9);
        faulty("seed 10;seed 5;", 3, 8);
        faulty(a + "head b 0 0;", 4, 18);
        faulty("start a 0;" + a, 4, 6);
        faulty(a + "sale aa 0 0 1;", 4, 18);
        faulty(a + "buy b", 4, 17);
        faulty(a + "asset b$", 4, 19);
    }

    /** The FAULT is of the latest text() that was not -2. */
    private static void promise4Order() {
        ExemptDesk desk = new ExemptDesk();
        check.due("a fault", -1, Check.tell(desk, "step 9;"));
        check.due("-2", -2, desk.text(1));
        check.due("fault after -2", 2, desk.fault(0));
        check.due("place after -2", 5, desk.fault(1));
        check.due("another what", -1, desk.fault(2));
        check.due("what below", -1, desk.fault(-1));
        Check.tell(desk, "step 10;");
        check.due("no fault", 0, desk.fault(0));
        check.due("no place", -1, desk.fault(1));
        desk.keep();
        Check.tell(desk, "up;");
        desk.back();
        check.due("no image keeps the fault", 1, desk.fault(0));
    }

    private static void promise5() {
        ExemptDesk desk = Check.desk("trader a 0 0;trader zzzzzz 0 0;trader abc 0 0;trader ab 0 0;");
        check.due("a", 0, desk.named(1 << 25));
        check.due("zzzzzz", 1, desk.named(Check.packed("zzzzzz")));
        check.due("abc", 2, desk.named(Check.packed("abc")));
        check.due("ab", 3, desk.named(Check.packed("ab")));
        check.due("b", -1, desk.named(Check.packed("b")));
        check.due("a at the lowest", -1, desk.named(1));
        check.due("nothing", -1, desk.named(0));
        check.due("below", -1, desk.named(-1));
        check.due("beyond 30 bits", -1, desk.named(1 << 25 | 1 << 30));
    }
}
