import java.util.NoSuchElementException;

/** What the tests share: how a desk is told a TEXT, and how answers are compared. */
final class Check {
    private int wrong;

    void due(String what, long want, long got) {
        if (want != got) {
            wrong++;
            System.out.println(what + " answered " + got + ", due is " + want);
        }
    }

    void due(String what, boolean want, boolean got) {
        due(what, want ? 1 : 0, got ? 1 : 0);
    }

    /** Which exception trader() throws: 1 IndexOutOfBounds, 2 NoSuchElement, 0 none. */
    void traderThrows(int want, ExemptDesk desk, int trader, int what) {
        int thrown = 0;
        try {
            desk.trader(trader, what);
        } catch (IndexOutOfBoundsException e) {
            thrown = 1;
        } catch (NoSuchElementException e) {
            thrown = 2;
        }
        due("trader(" + trader + ", " + what + ") throws", want, thrown);
    }

    /** A TEXT without a FAULT; the desk that has been told it. */
    ExemptDesk stands(int lines, String text) {
        ExemptDesk desk = new ExemptDesk();
        due(text, lines, tell(desk, text));
        due(text + " fault", 0, desk.fault(0));
        due(text + " place", -1, desk.fault(1));
        return desk;
    }

    /** A TEXT with a FAULT; a '|', which is not told, marks its place. */
    void faulty(int fault, String marked) {
        int place = marked.indexOf('|');
        String text = marked.substring(0, place) + marked.substring(place + 1);
        ExemptDesk desk = new ExemptDesk();
        due(marked, -1, tell(desk, text));
        due(marked + " fault", fault, desk.fault(0));
        due(marked + " place", place, desk.fault(1));
    }

    void end() {
        if (wrong > 0) {
            System.out.println(wrong + " answers are not as due");
            System.exit(1);
        }
    }

    /** Feeds a text, filled up with blanks, and answers text() of its length. */
    static int tell(ExemptDesk desk, String text) {
        feed(desk, text);
        return desk.text(text.length());
    }

    static void feed(ExemptDesk desk, String text) {
        for (int from = 0; from < text.length(); from += 20) {
            int[] four = new int[5];
            for (int i = 0; i < 20; i++) {
                int sign = from + i < text.length() ? text.charAt(from + i) & 255 : ' ';
                four[i / 4] = four[i / 4] << 8 | sign;
            }
            desk.feed(four[0], four[1], four[2], four[3], four[4]);
        }
    }

    /** A new desk that has been told a TEXT without a FAULT. */
    static ExemptDesk desk(String text) {
        ExemptDesk desk = new ExemptDesk();
        if (tell(desk, text) < 0) {
            throw new IllegalArgumentException(text + ": fault " + desk.fault(0) + " at " + desk.fault(1));
        }
        return desk;
    }

    /** The letters of a name as named() takes them. */
    static int packed(String name) {
        int letters = 0;
        for (int i = 0; i < 6; i++) {
            letters = letters << 5 | (i < name.length() ? name.charAt(i) - 'a' + 1 : 0);
        }
        return letters;
    }
}
