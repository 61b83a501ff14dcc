import java.util.Arrays;

/** "Terms" 1 and promises 1 to 5: the last that may still be told, and the first that may not. */
public final class TextEdgesTest {
    private static final Check check = new Check();
    private static final String A = "trader a 0 0;";
    private static final String[] LANGUAGE = {"trader", "head", "start", "round", "step", "limit", "seed", "sale",
        "buy", "asset", "down", "up", "near"};
    /** Every LINE, its tokens told apart by blanks; TRADER a is told ahead. */
    private static final String[] LINES = {"trader b 0 0 ;", "head a 0 0 ;", "start a 0 ;", "round up ;", "step 10 ;",
        "limit 0 ;", "seed 0 ;", "sale a 0 0 1 ;", "buy a 0 0 1 ;", "asset a 0 0 1 5 ;"};

    public static void main(String[] args) {
        tapeOf700();
        bytesHighestFirst();
        firstBytesOfTheTape();
        cutWithinAToken();
        textOf700();
        textOfNothing();
        textsInARow();
        faultWhats();
        faultOfAnotherText();
        names();
        everySignBehindALine();
        everySignOfAWord();
        everySignOfANumber();
        namesOfOneToSixLetters();
        namesOfTheLanguage();
        numbersThatWrapAround();
        numbersWithZerosAhead();
        atMostFourTraders();
        methodsAndBases();
        headsNoMoreThanAll();
        starts();
        ways();
        steps();
        limits();
        seeds();
        sales();
        buys();
        assets();
        atMostTwelveSales();
        atMostTwelveBuys();
        atMostFourAssets();
        moreMustCome();
        cannotStandThere();
        toldAlready();
        notToldAhead();
        firstAlongTheText();
        leastOfOnePlace();
        check.end();
    }

    private static ExemptDesk with(String more) {
        return check.stands(1 + (int) more.chars().filter(sign -> sign == ';').count(), A + more);
    }

    private static void without(int fault, String marked) {
        check.faulty(fault, A + marked);
    }

    // ---- promises 1 to 5

    /** "NONE, and none come, if it would have more than 700." */
    private static void tapeOf700() {
        ExemptDesk desk = new ExemptDesk();
        check.due("an empty tape", 0, desk.count(11));
        for (int i = 1; i <= 35; i++) {
            check.due("feed " + i, 20 * i, desk.feed(0, 0, 0, 0, 0));
        }
        check.due("feed 36", -1, desk.feed(0, 0, 0, 0, 0));
        check.due("none come", 700, desk.count(11));
        check.due("feed 37", -1, desk.feed(0, 0, 0, 0, 0));
        desk.text(0);
        check.due("empty then", 0, desk.count(11));
        check.due("feed again", 20, desk.feed(0, 0, 0, 0, 0));
    }

    /** "Twenty bytes .., four of each number, the highest first": also of numbers below 0, to the last bit. */
    private static void bytesHighestFirst() {
        ExemptDesk desk = new ExemptDesk();
        desk.feed(0x6c696d69, 0x74203739, 0x38353b73, 0x74657020, 0x3131323b);
        check.due("limit 7985;step 112;", 2, desk.text(20));
        check.due("limit", 7985, desk.count(7));
        check.due("step", 112, desk.count(5));
        for (int at = 0; at < 20; at++) {
            int[] numbers = new int[5];
            Arrays.fill(numbers, 0x20202020);
            numbers[at / 4] ^= 128 << 24 - at % 4 * 8;
            desk.feed(numbers[0], numbers[1], numbers[2], numbers[3], numbers[4]);
            check.due("byte " + at + " above 127", -1, desk.text(20));
            check.due("its fault", 1, desk.fault(0));
            check.due("its place", at, desk.fault(1));
        }
    }

    /** "NONE with a FAULT ..; -2, and the TAPE stays: there are not so many, n is below 0." */
    private static void firstBytesOfTheTape() {
        ExemptDesk desk = new ExemptDesk();
        check.due("one of an empty tape", -2, desk.text(1));
        check.due("none of an empty tape", 0, desk.text(0));
        Check.feed(desk, "step 11;limit 5;    ");
        check.due("n -1", -2, desk.text(-1));
        check.due("n 21", -2, desk.text(21));
        check.due("n least of all", -2, desk.text(Integer.MIN_VALUE));
        check.due("n most of all", -2, desk.text(Integer.MAX_VALUE));
        check.due("the tape stays", 20, desk.count(11));
        check.due("n 20", 2, desk.text(20));
        check.due("empty then", 0, desk.count(11));
        check.due("limit", 5, desk.count(7));
        Check.feed(desk, "step 12;limit 6;    ");
        check.due("n 7 is a byte too few", -1, desk.text(7));
        check.due("more must come", 7, desk.fault(1));
        check.due("empty with a fault, too", 0, desk.count(11));
        check.due("all else stays", 11, desk.count(5));
        Check.feed(desk, "step 12;limit 6;    ");
        check.due("n 8", 1, desk.text(8));
        check.due("what is behind goes, too", 0, desk.count(11));
        check.due("step", 12, desk.count(5));
        check.due("the limit isn't told", 0, desk.count(7));
    }

    /** "The TAPE's first n bytes .. are the TEXT": what is behind them, or was there ahead, ends no token otherwise. */
    private static void cutWithinAToken() {
        String told = "trader abc 2 1;head abc 123 456;round near;limit 7985;";
        for (int n = 0; n <= told.length(); n++) {
            ExemptDesk alone = new ExemptDesk();
            int due = Check.tell(alone, told.substring(0, n));
            ExemptDesk cut = new ExemptDesk();
            Check.feed(cut, told);
            check.due("first " + n, due, cut.text(n));
            check.due("fault of the first " + n, alone.fault(0), cut.fault(0));
            check.due("place of the first " + n, alone.fault(1), cut.fault(1));
        }
        ExemptDesk desk = new ExemptDesk();
        int[] places = {8, 9, 25, 28, 41, 51};
        for (int n : places) {
            Check.feed(desk, told);
            check.due("cut at " + n, -1, desk.text(n));
            check.due("its fault", 1, desk.fault(0));
            check.due("its place", n == 41 ? 38 : n, desk.fault(1));
        }
        Check.feed(desk, "                  tr");
        check.due("behind it stood letters", -1, desk.text(20));
        check.due("no word of the language", 18, desk.fault(1));
        Check.feed(desk, "limit 7;trader a 0 0;");
        check.due("a name, two numbers", 2, desk.text(21));
        check.due("the limit", 7, desk.count(7));
    }

    private static void textOf700() {
        String blanks = " ".repeat(700);
        check.due("the last byte counts", 11, check.stands(1, blanks.substring(8) + "step 11;").count(5));
        check.faulty(1, blanks.substring(7) + "step 11|");
        check.faulty(1, blanks.substring(1) + "|;");
        check.faulty(2, blanks.substring(7) + "step |9;");
        check.faulty(1, blanks.substring(4) + "step|");
        check.faulty(1, blanks.substring(8) + "round up|");
        check.faulty(1, blanks.substring(11) + "trader |near");
        check.faulty(1, blanks.substring(8) + "trader a|");
        check.faulty(4, blanks.substring(6) + "head |a");
        check.faulty(1, blanks.substring(1) + "|$");
        StringBuilder most = new StringBuilder(A);
        for (int i = 0; i < 12; i++) {
            most.append("sale a 0 0 1;buy a 0 0 1;");
        }
        for (int i = 0; i < 4; i++) {
            most.append("asset a 1 0 1 5;");
        }
        most.append("trader b 0 0;trader c 0 0;trader d 0 0;");
        for (String name : "a b c d".split(" ")) {
            most.append("head ").append(name).append(" 0 0;start ").append(name).append(" 0;");
        }
        most.append("round up;step 10;limit 0;seed 0;");
        check.stands(44, most.toString());
    }

    /** "A TEXT: { LINE ';' }": none is one, too, and by it all is as without LINES. */
    private static void textOfNothing() {
        ExemptDesk desk = check.stands(3, "step 20;limit 7;trader a 0 0;");
        desk.close(2);
        check.due("no bytes", 0, desk.text(0));
        int[] counts = {0, 0, 0, 0, 0, 100, 0, 0, 0, 0, 0, 0, 0};
        for (int what = 0; what < counts.length; what++) {
            check.due("count " + what + " without lines", counts[what], desk.count(what));
        }
        check.stands(0, " ");
        check.stands(0, "\n");
        check.faulty(1, "|;");
    }

    /** Nothing that a TEXT told, with a FAULT or without, is left by the second, the third one behind it. */
    private static void textsInARow() {
        String rich = "trader a 2 1;trader b 1 0;head a 1 4;start a 30;round up;step 50;limit 40;seed 7;sale a 0 1 5;"
            + "buy a 0 2 100;buy b 1 2 7;asset a 0 2 60 5;";
        int[] plain = {1, 0, 0, 0, 0, 100, 0, 0, 0, 0, 0, 0, 0};
        ExemptDesk desk = new ExemptDesk();
        for (int times = 0; times < 6; times++) {
            check.due("rich", times % 2 == 0 ? 12 : -1, Check.tell(desk, rich + (times % 2 == 0 ? "" : "$")));
            desk.close(5);
            for (int again = 0; again < 1 + times / 2; again++) {
                check.due("plain", 1, Check.tell(desk, A));
                for (int what = 0; what < plain.length; what++) {
                    check.due("count " + what + " of the plain one", plain[what], desk.count(what));
                }
                for (int what = 0; what < 6; what++) {
                    check.due("trader " + what + " of the plain one", what == 4 ? -2 : 0, desk.trader(0, what));
                }
                check.due("no sums", 0, desk.sum(0, 0, 4));
                check.due("no totals", 0, desk.total(0, 0) + desk.total(0, 1) + desk.total(0, 2));
                check.due("nothing booked of the year", 0, desk.annual(0, 0, 3));
                check.due("no entries", -999999, desk.booked(0, 0));
                check.due("chance by seed 0", desk.chance(0, 8, 0), desk.chance(-1, 8, 0));
                check.due("nothing comes", 1, desk.close(1));
                check.due("of 0", 0, desk.booked(0, 3));
            }
        }
    }

    /** "what 0: its FAULT (0), 1: its place (NONE without). NONE for another what." */
    private static void faultWhats() {
        ExemptDesk desk = new ExemptDesk();
        check.due("what -1", -1, desk.fault(-1));
        check.due("what 0", 0, desk.fault(0));
        check.due("what 1", -1, desk.fault(1));
        check.due("what 2", -1, desk.fault(2));
        Check.tell(desk, "step 9;");
        check.due("what -1 with a fault", -1, desk.fault(-1));
        check.due("what 0 with a fault", 2, desk.fault(0));
        check.due("what 1 with a fault", 5, desk.fault(1));
        check.due("what 2 with a fault", -1, desk.fault(2));
    }

    /** "Of the latest text() that was not -2". */
    private static void faultOfAnotherText() {
        ExemptDesk desk = new ExemptDesk();
        Check.tell(desk, "step 9;");
        check.due("-2", -2, desk.text(-1));
        check.due("the fault stays by -2", 2, desk.fault(0));
        check.due("its place stays by -2", 5, desk.fault(1));
        Check.tell(desk, ";");
        check.due("another fault", 1, desk.fault(0));
        check.due("at another place", 0, desk.fault(1));
        check.due("a text without one", 0, desk.text(0));
        check.due("none", 0, desk.fault(0));
        check.due("no place", -1, desk.fault(1));
    }

    /** "5 bits each (a is 1; the first one highest of six, 0 behind the last one)". */
    private static void names() {
        ExemptDesk desk = check.stands(4, "trader a 0 0;trader z 0 0;trader zzzzzz 0 0;trader aaaaab 0 0;");
        check.due("a", 0, desk.named(1 << 25));
        check.due("z", 1, desk.named(26 << 25));
        check.due("zzzzzz", 2, desk.named(26 * (((1 << 30) - 1) / 31)));
        check.due("aaaaab", 3, desk.named(((1 << 30) - 1) / 31 + 1));
        check.due("aaaaaa", -1, desk.named(((1 << 30) - 1) / 31));
        check.due("aaaaa", -1, desk.named(((1 << 30) - 1) / 31 - 1));
        check.due("no letters", -1, desk.named(0));
        check.due("a letter 0 ahead of a", -1, desk.named(1 << 20));
        check.due("a letter 27", -1, desk.named(27 << 25));
        check.due("a letter behind 0", -1, desk.named(1 << 25 | 1));
        check.due("above 30 bits", -1, desk.named(1 << 25 | 1 << 30));
        check.due("below 0", -1, desk.named(1 << 25 | 1 << 31));
        check.due("most of all", -1, desk.named(Integer.MAX_VALUE));
        check.due("without traders", -1, new ExemptDesk().named(0));
    }

    // ---- signs, words, numbers

    /** "Blanks 10, 32": of all 256 bytes these two may stand alone. */
    private static void everySignBehindALine() {
        for (int sign = 0; sign < 256; sign++) {
            if (sign == 10 || sign == 32) {
                check.stands(1, "step 10;" + (char) sign);
            } else if (sign != '|') {
                check.faulty(1, "step 10;|" + (char) sign);
            }
        }
    }

    /** "Words: small letters in a row": a is the first sign of them, z the last one. */
    private static void everySignOfAWord() {
        for (int sign = 0; sign < 256; sign++) {
            String one = "" + (char) sign;
            if (sign >= 'a' && sign <= 'z') {
                check.due("named " + one, 0, check.stands(1, "trader " + one + " 0 0;").named(sign - 96 << 25));
                check.due("named q" + one, 0, check.stands(1, "trader q" + one + " 0 0;")
                    .named(17 << 25 | sign - 96 << 20));
            } else if (sign == 10 || sign == 32) {
                check.faulty(1, "trader " + one + " |0 0;");
                check.stands(1, "trader q" + one + "0 0;");
            } else if (sign >= '0' && sign <= '9') {
                check.faulty(1, "trader |" + one + " 0 0;");
                check.faulty(sign < '3' ? 1 : 2, sign < '3' ? "trader q" + one + " 0 |0;" : "trader q|" + one + " 0 0;");
            } else if (sign != '|') {
                check.faulty(1, "trader |" + one + " 0 0;");
                check.faulty(1, "trader q|" + one + " 0 0;");
            }
        }
    }

    /** "N: digits": 0 is the first sign of them, 9 the last one. */
    private static void everySignOfANumber() {
        for (int sign = 0; sign < 256; sign++) {
            String one = "" + (char) sign;
            if (sign >= '0' && sign <= '9') {
                check.due("limit " + one, sign - '0', check.stands(1, "limit " + one + ";").count(7));
                check.due("limit 4" + one, 40 + sign - '0', check.stands(1, "limit 4" + one + ";").count(7));
            } else if (sign == 10 || sign == 32) {
                check.faulty(1, "limit " + one + "|;");
                check.stands(1, "limit 4" + one + ";");
            } else if (sign != '|') {
                check.faulty(1, "limit |" + one + ";");
                check.faulty(1, sign == ';' ? "limit 4;|;" : "limit 4|" + one + ";");
            }
        }
    }

    /** "W: one of 1 .. 6 letters". */
    private static void namesOfOneToSixLetters() {
        check.stands(1, "trader a 0 0;");
        check.stands(1, "trader abcdef 0 0;");
        check.faulty(1, "trader |abcdefg 0 0;");
        check.faulty(1, "trader |0 0;");
        check.faulty(1, "trader |" + "a".repeat(600) + " 0 0;");
        check.faulty(1, "trader abcdef 0 0;head |abcdefg 0 0;");
        check.stands(2, "trader abcdef 0 0;trader abcdeg 0 0;");
        check.stands(2, "trader abcdef 0 0;trader abcde 0 0;");
        check.faulty(3, "trader abcdef 0 0;trader |abcdef 0 0;");
        check.faulty(1, "|abcdefg;");
        check.faulty(1, "|abcdef;");
    }

    /** "none of those of the language (WAYS, too)": with a letter less or more it is none of them. */
    private static void namesOfTheLanguage() {
        for (String word : LANGUAGE) {
            check.faulty(1, "trader |" + word + " 0 0;");
            check.faulty(1, "sale |" + word + " 0 0 1;");
            String less = word.substring(0, word.length() - 1);
            check.stands(1, "trader " + less + " 0 0;");
            check.stands(1, "trader " + word.substring(1) + " 0 0;");
            if (word.length() < 6) {
                check.stands(1, "trader " + word + "x 0 0;");
            } else {
                check.faulty(1, "trader |" + word + "x 0 0;");
            }
            check.faulty(1, "|" + less + " a 0 0;");
            check.faulty(1, "|" + word + "x a 0 0;");
        }
    }

    /** "2 too much (at it): a number beyond what is said": however many digits it has. */
    private static void numbersThatWrapAround() {
        String[] beyond = {"65536", "1000000", "1000001", "2147483647", "2147483648", "4294967295", "4294967296",
            "4294967306", "42949672960", "9223372036854775807", "9223372036854775808", "18446744073709551616",
            "18446744073709551626", "1" + "0".repeat(600)};
        for (String number : beyond) {
            check.faulty(2, "limit |" + number + ";");
            check.faulty(2, "step |" + number + ";");
            without(2, "asset a 0 0 1 |" + number + ";");
            without(2, "head a |" + number + " 1;");
        }
    }

    private static void numbersWithZerosAhead() {
        check.due("step", 10, check.stands(1, "step " + "0".repeat(600) + "10;").count(5));
        check.due("limit", 9999, check.stands(1, "limit " + "0".repeat(600) + "9999;").count(7));
        check.faulty(2, "limit |" + "0".repeat(600) + "10000;");
        check.faulty(2, "step |" + "0".repeat(600) + "9;");
    }

    // ---- what may be told

    /** "TRADERS, at most 4"; "2 too much: .. a fifth trader (at the word of the LINE)". */
    private static void atMostFourTraders() {
        String four = A + "trader b 0 0;trader c 0 0;trader d 0 0;";
        ExemptDesk desk = check.stands(4, four);
        check.due("four", 4, desk.count(0));
        check.due("the last one", 3, desk.named(Check.packed("d")));
        check.faulty(2, four + "|trader e 0 0;");
        check.faulty(2, four + "|trader");
        check.faulty(2, four + "|trader a 9 9;");
    }

    private static void methodsAndBases() {
        ExemptDesk desk = check.stands(1, "trader a 2 1;");
        check.due("method", 2, desk.trader(0, 0));
        check.due("basis", 1, desk.trader(0, 1));
        check.faulty(2, "trader a |3 0;");
        check.faulty(2, "trader a 0 |2;");
    }

    /** "0 .. 999 each, OWN no more than all (0, 0)". */
    private static void headsNoMoreThanAll() {
        int[][] allowed = {{0, 0}, {0, 1}, {1, 1}, {0, 999}, {998, 999}, {999, 999}};
        for (int[] heads : allowed) {
            ExemptDesk desk = with("head a " + heads[0] + " " + heads[1] + ";");
            check.due("own", heads[0], desk.trader(0, 2));
            check.due("all", heads[1], desk.trader(0, 3));
        }
        without(2, "head a 1 |0;");
        without(2, "head a 999 |998;");
        without(2, "head a 0 |1000;");
        without(2, "head a 999 |1000;");
        without(2, "head a |1000 1000;");
        check.due("own without", 0, with("").trader(0, 2));
        check.due("all without", 0, with("").trader(0, 3));
    }

    /** "start: a FRACTION 0 .. 1000", also above the step. */
    private static void starts() {
        check.due("start 0", 0, with("start a 0;").trader(0, 4));
        check.due("start 1000", 1000, with("start a 1000;").trader(0, 4));
        check.due("start 1000 of 10", 1000, with("step 10;start a 1000;").trader(0, 4));
        check.due("without", -2, with("").trader(0, 4));
        without(2, "start a |1001;");
    }

    private static void ways() {
        check.due("down", 0, check.stands(1, "round down;").count(6));
        check.due("up", 1, check.stands(1, "round up;").count(6));
        check.due("near", 2, check.stands(1, "round near;").count(6));
        check.due("without", 0, new ExemptDesk().count(6));
        for (String no : "u ups dow downs nea nears a trader 0".split(" ")) {
            check.faulty(1, "round |" + no + ";");
        }
    }

    private static void steps() {
        check.due("10", 10, check.stands(1, "step 10;").count(5));
        check.due("1000", 1000, check.stands(1, "step 1000;").count(5));
        check.due("without", 100, new ExemptDesk().count(5));
        check.faulty(2, "step |9;");
        check.faulty(2, "step |1001;");
        check.faulty(2, "step |0;");
    }

    private static void limits() {
        check.due("0", 0, check.stands(1, "limit 0;").count(7));
        check.due("9999", 9999, check.stands(1, "limit 9999;").count(7));
        check.due("without", 0, new ExemptDesk().count(7));
        check.faulty(2, "limit |10000;");
    }

    private static void seeds() {
        check.stands(1, "seed 0;");
        check.stands(1, "seed 99999;");
        check.faulty(2, "seed |100000;");
    }

    /** "sale: of a TRADER the QUARTER 0 .. 63, KIND 0 or 1, 1 .. 99999." */
    private static void sales() {
        check.due("the least", 1, with("sale a 0 0 1;").sum(0, 0, 0));
        check.due("the most", 99999, with("sale a 0 1 99999;").sum(0, 0, 1));
        ExemptDesk late = with("sale a 63 1 7;");
        late.close(16);
        late.close(16);
        late.close(16);
        late.close(14);
        check.due("not there in quarter 62", 0, late.sum(0, 63, 1));
        late.close(1);
        check.due("quarter 63", 7, late.sum(0, 63, 1));
        without(2, "sale a |64 0 1;");
        without(2, "sale a 0 |2 1;");
        without(2, "sale a 0 0 |0;");
        without(2, "sale a 0 0 |100000;");
    }

    /** "buy: QUARTER, KIND 0 .. 2, TAX 1 .. 9999." */
    private static void buys() {
        check.due("the least", 1, with("buy a 0 0 1;").sum(0, 0, 2));
        check.due("the most", 9999, with("buy a 0 2 9999;").sum(0, 0, 4));
        ExemptDesk late = with("buy a 63 1 7;");
        late.close(16);
        late.close(16);
        late.close(16);
        late.close(15);
        check.due("quarter 63", 7, late.sum(0, 63, 3));
        without(2, "buy a |64 0 1;");
        without(2, "buy a 0 |3 1;");
        without(2, "buy a 0 0 |0;");
        without(2, "buy a 0 0 |10000;");
    }

    /** "asset: of a TRADER the QUARTER 0 .. 63, USE 0 .. 2, TAX 1 .. 9999, 5 or 10 INTERVALS." */
    private static void assets() {
        check.due("the least", 1, with("asset a 0 0 1 5;").asset(0, 2));
        ExemptDesk most = with("asset a 0 2 9999 10;");
        check.due("the most", 9999, most.asset(0, 2));
        check.due("use", 2, most.asset(0, 1));
        check.due("intervals", 10, most.asset(0, 3));
        ExemptDesk late = with("asset a 63 1 7 5;");
        late.close(16);
        late.close(16);
        late.close(16);
        late.close(15);
        check.due("quarter 63", 63, late.asset(0, 4));
        without(2, "asset a |64 0 1 5;");
        without(2, "asset a 0 |3 1 5;");
        without(2, "asset a 0 0 |0 5;");
        without(2, "asset a 0 0 |10000 5;");
        for (String no : "0 1 4 6 9 11 50 15".split(" ")) {
            without(2, "asset a 0 0 1 |" + no + ";");
        }
    }

    /** "sale, at most 12": "a 13th sale (at the word of the LINE)". */
    private static void atMostTwelveSales() {
        String twelve = "sale a 0 0 1;".repeat(12);
        ExemptDesk desk = with(twelve);
        check.due("12", 12, desk.count(8));
        check.due("all count", 12, desk.sum(0, 0, 0));
        without(2, twelve + "|sale a 0 0 1;");
        without(2, twelve + "|sale");
        with(twelve + "buy a 0 0 1;");
    }

    /** "buy, at most 12": "a 13th buy (at the word of the LINE)". */
    private static void atMostTwelveBuys() {
        String twelve = "buy a 0 0 1;".repeat(12);
        ExemptDesk desk = with(twelve);
        check.due("12", 12, desk.count(9));
        check.due("all count", 12, desk.sum(0, 0, 2));
        without(2, twelve + "|buy a 0 0 1;");
        without(2, twelve + "|buy");
        with(twelve + "sale a 0 0 1;");
    }

    /** "asset, at most 4": "a fifth .. asset (at the word of the LINE)". */
    private static void atMostFourAssets() {
        String four = "asset a 0 0 1 5;".repeat(4);
        ExemptDesk desk = with(four);
        check.due("4 told", 4, desk.count(12));
        check.due("4 bought", 4, desk.count(2));
        without(2, four + "|asset a 0 0 1 5;");
        without(2, four + "|asset");
    }

    // ---- FAULTS and their places

    /** "(the length, if more must come)": behind each token of each LINE, blanks or none behind it. */
    private static void moreMustCome() {
        for (String line : LINES) {
            String ahead = A;
            check.stands(1, ahead);
            String[] tokens = line.split(" ");
            for (int i = 0; i < tokens.length - 1; i++) {
                ahead += tokens[i];
                check.faulty(1, ahead + "|");
                check.faulty(1, ahead + " \n |");
                ahead += " ";
            }
            check.stands(2, ahead + ";");
        }
    }

    /** "1 a TOKEN that is none .. or can't stand there": in place of each token of each LINE. */
    private static void cannotStandThere() {
        for (String line : LINES) {
            String[] tokens = line.split(" ");
            String ahead = A;
            for (String token : tokens) {
                for (String other : new String[] {"$", "#a", ";", "-1", "A", "abcdefg", "zz", "0", "down"}) {
                    if (!couldStandFor(token, other)) {
                        check.faulty(1, ahead + "|" + other + " ;");
                    }
                }
                ahead += token + " ";
            }
        }
    }

    private static boolean couldStandFor(String token, String other) {
        boolean number = Character.isDigit(token.charAt(0));
        boolean name = token.equals("a") || token.equals("b");
        return number && other.equals("0") || name && other.equals("zz") || token.equals("up") && other.equals("down")
            || token.equals(other);
    }

    /** "3 told already: a name (at W), head, start of the TRADER (at W), round, step, limit, seed (at the word)." */
    private static void toldAlready() {
        String two = "trader b 0 0;";
        without(3, "trader |a 0 0;");
        without(3, two + "trader |b 1 1;");
        without(3, "head a 0 0;head |a 0 0;");
        with(two + "head a 0 0;head b 0 0;");
        without(3, two + "head a 0 0;head b 0 0;head |b 0 0;");
        without(3, "start a 0;start |a 0;");
        with(two + "start a 0;start b 0;");
        without(3, two + "start a 1000;start b 0;start |a 0;");
        without(3, "round down;|round down;");
        without(3, "step 100;|step 100;");
        without(3, "limit 0;|limit 0;");
        without(3, "seed 0;|seed 0;");
        with("head a 0 0;start a 0;round down;step 100;limit 0;seed 0;");
        ExemptDesk desk = with("head a 0 0;start a 0;round down;step 100;limit 0;seed 0;");
        check.due("told anew by another text", 7,
            Check.tell(desk, A + "head a 0 0;start a 0;round down;step 100;limit 0;seed 0;"));
    }

    /** "4 a TRADER that isn't told ahead (at W)." */
    private static void notToldAhead() {
        for (String line : "head |b 0 0;start |b 0;sale |b 0 0 1;buy |b 0 0 1;asset |b 0 0 1 5".split(";")) {
            without(4, line + ";trader b 0 0;");
            without(4, line.substring(0, line.indexOf("|b") + 2));
            check.stands(3, A + "trader b 0 0;" + line.replace("|", "") + ";");
        }
        without(4, "head |aa 0 0;");
        check.faulty(4, "trader aa 0 0;head |a 0 0;");
        check.faulty(4, "trader abcdef 0 0;head |abcdeg 0 0;");
        ExemptDesk desk = with("");
        Check.tell(desk, "head a 0 0;");
        check.due("told by another text is not told", 4, desk.fault(0));
    }

    /** "FAULTS, the first along the text". */
    private static void firstAlongTheText() {
        check.faulty(2, "step |9;limit 10000;");
        check.faulty(2, "step |9");
        check.faulty(2, "step |9 $");
        check.faulty(1, "step 10 |9;step 9;");
        check.faulty(2, "trader a |3 2;");
        check.faulty(3, A + "trader |a 3 2;");
        check.faulty(3, "step 10;|step 9;");
        check.faulty(4, "sale |b 64 2 0;");
        check.faulty(2, A + "sale a |64 2 0;");
        check.faulty(2, A + "sale a 0 |2 0;");
        check.faulty(2, A + "head a |1000 1001;");
        check.faulty(2, A + "asset a 0 0 |0 6;");
        check.faulty(2, A + "sale a 0 0 1;".repeat(12) + "|sale b 64 2 0;");
    }

    /** "(of one place the least)": 1 goes ahead of 3 and 4 where a word is no W. */
    private static void leastOfOnePlace() {
        without(1, "head |abcdefg 0 0;");
        without(1, "head |near 0 0;");
        without(1, "trader |abcdefg 0 0;");
        without(1, "trader |trader 0 0;");
        without(1, "asset |9 0 0 1 5;");
    }
}
