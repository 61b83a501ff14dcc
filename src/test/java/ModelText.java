import java.math.BigInteger;
import java.util.ArrayList;
import java.util.List;
import java.util.regex.Matcher;
import java.util.regex.Pattern;

/** Reads a TEXT for the model: cuts it into tokens first, then walks a pattern for each LINE. */
final class ModelText {
    private static final Pattern TOKEN = Pattern.compile("[a-z]+|[0-9]+|;|[^ \n]", Pattern.DOTALL);
    private static final List<String> LINES =
        List.of("trader", "head", "start", "round", "step", "limit", "seed", "sale", "buy", "asset");
    private static final List<String> WAYS = List.of("down", "up", "near");
    /** What stands behind the word: w a new name, t a told one, r a WAY; then the bounds of numbers. */
    private static final String[] BEHIND = {"w 0-2 0-1", "t 0-999 0-999", "t 0-1000", "r", "10-1000", "0-9999",
        "0-99999", "t 0-63 0-1 1-99999", "t 0-63 0-2 1-9999", "t 0-63 0-2 1-9999 5-10"};

    private final Model.Told told = new Model.Told();
    private final List<String> tokens = new ArrayList<>();
    private final List<Integer> places = new ArrayList<>();
    private int at;

    static Model.Told parse(String text) {
        ModelText reader = new ModelText();
        Matcher matcher = TOKEN.matcher(text);
        while (matcher.find()) {
            reader.tokens.add(matcher.group());
            reader.places.add(matcher.start());
        }
        reader.tokens.add("");
        reader.places.add(text.length());
        while (reader.told.fault == 0 && !reader.token().isEmpty()) {
            reader.line();
        }
        return reader.told;
    }

    private String token() {
        return tokens.get(at);
    }

    private boolean fault(int number) {
        told.fault = number;
        told.place = places.get(at);
        return false;
    }

    private void line() {
        int kind = LINES.indexOf(token());
        if (kind < 0) {
            fault(1);
            return;
        }
        int before = wordFault(kind);
        if (before != 0) {
            fault(before);
            return;
        }
        at++;
        List<Integer> numbers = new ArrayList<>();
        for (String part : BEHIND[kind].split(" ")) {
            if (!take(part, kind, numbers)) {
                return;
            }
            at++;
        }
        put(kind, numbers);
        if (!token().equals(";")) {
            fault(1);
            return;
        }
        at++;
        told.lines++;
    }

    private int wordFault(int kind) {
        switch (kind) {
            case 0: return told.names.size() == 4 ? 2 : 0;
            case 3: return told.way != null ? 3 : 0;
            case 4: return told.step != null ? 3 : 0;
            case 5: return told.limit != null ? 3 : 0;
            case 6: return told.seed != null ? 3 : 0;
            case 7: return told.sales.size() == 12 ? 2 : 0;
            case 8: return told.buys.size() == 12 ? 2 : 0;
            case 9: return told.assets.size() == 4 ? 2 : 0;
            default: return 0;
        }
    }

    private boolean take(String part, int kind, List<Integer> numbers) {
        String token = token();
        if (part.equals("r")) {
            told.way = token;
            return WAYS.contains(token) || fault(1);
        }
        if (part.equals("w") || part.equals("t")) {
            if (!token.matches("[a-z]{1,6}") || LINES.contains(token) || WAYS.contains(token)) {
                return fault(1);
            }
            int trader = told.names.indexOf(token);
            if (part.equals("w")) {
                told.names.add(token);
                return trader < 0 || fault(3);
            }
            numbers.add(trader);
            if (trader < 0) {
                return fault(4);
            }
            boolean twice = kind == 1 && told.heads.get(trader) != null || kind == 2 && told.starts.get(trader) != null;
            return !twice || fault(3);
        }
        if (!token.matches("[0-9]+")) {
            return fault(1);
        }
        String[] bounds = part.split("-");
        BigInteger number = new BigInteger(token);
        boolean right = number.compareTo(new BigInteger(bounds[0])) >= 0
            && number.compareTo(new BigInteger(bounds[1])) <= 0;
        if (right && kind == 1 && numbers.size() == 2) {
            right = number.intValue() >= numbers.get(1);
        }
        if (right && part.equals("5-10")) {
            right = number.intValue() % 5 == 0;
        }
        numbers.add(right ? number.intValue() : 0);
        return right || fault(2);
    }

    private void put(int kind, List<Integer> numbers) {
        int[] row = new int[numbers.size()];
        for (int i = 0; i < row.length; i++) {
            row[i] = numbers.get(i);
        }
        switch (kind) {
            case 0: told.traders.add(row); told.heads.add(null); told.starts.add(null); break;
            case 1: told.heads.set(row[0], new int[] {row[1], row[2]}); break;
            case 2: told.starts.set(row[0], row[1]); break;
            case 4: told.step = row[0]; break;
            case 5: told.limit = row[0]; break;
            case 6: told.seed = row[0]; break;
            case 7: told.sales.add(row); break;
            case 8: told.buys.add(row); break;
            case 9: told.assets.add(row); break;
            default: break;
        }
    }
}
