import java.math.BigInteger;
import java.util.ArrayList;
import java.util.List;
import java.util.regex.Matcher;
import java.util.regex.Pattern;

/** The document's words on texts, told a second time: over a list of tokens that is made first. */
final class PlainText {
    private static final List<String> KINDS = List.of("sheet", "filter", "turner", "half", "smoke", "horn", "strain");
    private static final Pattern TOKEN = Pattern.compile("[a-z]+|[0-9]+|[^ ]", Pattern.DOTALL);

    private final List<String> tokens = new ArrayList<>();
    private final List<Integer> places = new ArrayList<>();
    private final PlainModel m;
    private int at = 0;
    private int number = 0;

    /** Reads each byte as a sign of its own. What the text tells is done to the model, up to a fault if there is one. */
    PlainText(String text, PlainModel m) {
        this.m = m;
        Matcher matcher = TOKEN.matcher(text);
        while (matcher.find()) {
            tokens.add(matcher.group());
            places.add(matcher.start());
        }
        tokens.add("");
        places.add(text.length());
    }

    /** How many items, or -1 less the fault. */
    int answer() {
        int items = 0;
        while (item()) {
            items++;
            if (at == tokens.size() - 1) {
                return items;
            }
            if (!took(";")) {
                break;
            }
        }
        return -1 - places.get(at);
    }

    private boolean took(String token) {
        boolean is = tokens.get(at).equals(token);
        at += is ? 1 : 0;
        return is;
    }

    private boolean isNumber() {
        return tokens.get(at).matches("[0-9]+");
    }

    private boolean tookNumber(int most) {
        if (!isNumber() || new BigInteger(tokens.get(at)).compareTo(BigInteger.valueOf(most)) > 0) {
            return false;
        }
        number = new BigInteger(tokens.get(at)).intValue();
        at++;
        return true;
    }

    private boolean item() {
        int kind = KINDS.indexOf(tokens.get(at));
        if (kind >= 0 && m.sheets.size() < 10) {
            at++;
            return sheet(kind);
        }
        if (took("load")) {
            boolean fine = tookNumber(11);
            m.load = fine ? number : m.load;
            return fine;
        }
        if (took("lamp")) {
            return tookNumber(1000) && lamp(number);
        }
        return took("stack") && tookNumber(3) && stack(number);
    }

    private boolean sheet(int kind) {
        int[] sheet = {kind, 0, 1000};
        String[] words = {"", "turn", "pass"};
        int[] most = {0, 11, 1000};
        for (int what = 1; what <= 2; what++) {
            if (took(words[what])) {
                if (!tookNumber(most[what])) {
                    return false;
                }
                sheet[what] = number;
            }
        }
        m.sheets.add(sheet);
        return true;
    }

    private boolean lamp(int share) {
        if (took("mixed")) {
            m.lamp = new int[] {share, -1};
            return true;
        }
        if (!took("slant") || !tookNumber(11)) {
            return false;
        }
        m.lamp = new int[] {share, number};
        return true;
    }

    private boolean stack(int stack) {
        List<Integer> row = new ArrayList<>();
        while (row.isEmpty() || row.size() < 6 && isNumber()) {
            if (!tookNumber(m.sheets.size() - 1)) {
                return false;
            }
            row.add(number);
        }
        m.stacks.set(stack, row);
        return true;
    }
}
