import java.math.BigInteger;
import java.util.ArrayList;
import java.util.List;
import java.util.Random;
import java.util.regex.Matcher;
import java.util.regex.Pattern;

/**
 * Promise 37 on random texts, held against a second reading of them over a list of tokens.
 * The seeds are fixed: each run is the same again.
 */
public final class PlainTextTest {
    private static final Check c = new Check();
    private static final List<String> KINDS = List.of("sheet", "filter", "turner", "half", "smoke", "horn", "strain");
    private static final Pattern TOKEN = Pattern.compile("[a-z]+|[0-9]+|[^ ]");
    private static final String[] ITEMS = {"sheet", "half turn 3", "horn pass 20", "strain turn 11 pass 0", "stack 0 0",
        "stack 3 1 0 2", "stack 1 0 1 2 3 4 5", "lamp 1000 mixed", "lamp 0 slant 11", "load 11", "load 00", "smoke", "turner turn0"};
    private static final String[] TOKENS = {";", " ; ", "sheet", "turn", "pass", "stack", "lamp", "load", "mixed", "slant", "0",
        " 1 ", " 3 ", " 11", " 12 ", " 1000 ", " 1001 ", " 10000", " 99999999999 ", "?", "x", "", " "};

    private final List<String> tokens = new ArrayList<>();
    private final List<Integer> places = new ArrayList<>();
    private int at = 0;
    private int sheets;
    private int load;
    private final List<Integer> stackHeights = new ArrayList<>(List.of(0, 0, 0, 0));

    private PlainTextTest(String text, int sheets) {
        Matcher matcher = TOKEN.matcher(text);
        while (matcher.find()) {
            tokens.add(matcher.group());
            places.add(matcher.start());
        }
        tokens.add("");
        places.add(text.length());
        this.sheets = sheets;
    }

    public static void main(String[] args) {
        Random random = new Random(37);
        int whole = 0;
        for (int i = 0; i < 20000; i++) {
            String text = anyText(random);
            int sheets = random.nextInt(4) == 0 ? 7 + random.nextInt(4) : random.nextInt(4);
            whole += ask(text, sheets) ? 1 : 0;
        }
        c.due("a fair share of the texts has no fault: " + whole, whole > 2000 && whole < 18000 ? 1 : 0, 1);
        c.end();
    }

    private static String anyText(Random random) {
        StringBuilder text = new StringBuilder();
        int items = 1 + random.nextInt(6);
        for (int i = 0; i < items; i++) {
            text.append(i == 0 ? "" : random.nextInt(5) == 0 ? " ; " : ";").append(ITEMS[random.nextInt(ITEMS.length)]);
        }
        for (int i = random.nextInt(3); i > 0; i--) {
            int place = random.nextInt(text.length() + 1);
            int end = Math.min(text.length(), place + random.nextInt(3));
            text.replace(place, end, TOKENS[random.nextInt(TOKENS.length)]);
        }
        return text.length() > 120 ? text.substring(0, 120) : text.toString();
    }

    private static boolean ask(String text, int sheets) {
        SlantSheets x = new SlantSheets();
        for (int i = 0; i < sheets; i++) {
            x.sheet(0, 0, 0);
        }
        PlainTextTest plain = new PlainTextTest(text, sheets);
        int items = plain.items();
        int due = items > 0 ? items : -1 - plain.places.get(plain.at);
        c.due("text '" + text + "' over " + sheets + " sheets", Check.text(x, text), due);
        c.due("its sheets", x.count(0), items > 0 ? plain.sheets : sheets);
        c.due("its load", x.count(3), items > 0 ? plain.load : 0);
        for (int stack = 0; stack < 4; stack++) {
            c.due("its stack " + stack, x.like(stack, stack), items > 0 ? plain.stackHeights.get(stack) : 0);
        }
        return items > 0;
    }

    /** How many items; 0 with a fault, which is the token at hand. */
    private int items() {
        for (int items = 1; item(); items++) {
            if (at == tokens.size() - 1) {
                return items;
            }
            if (!took(";")) {
                return 0;
            }
        }
        return 0;
    }

    private boolean took(String token) {
        boolean is = tokens.get(at).equals(token) && at < tokens.size() - 1;
        at += is ? 1 : 0;
        return is;
    }

    private int number(int most) {
        String token = tokens.get(at);
        if (!token.matches("[0-9]+") || new BigInteger(token).compareTo(BigInteger.valueOf(most)) > 0) {
            return -1;
        }
        at++;
        return Integer.parseInt(token);
    }

    private boolean item() {
        if (KINDS.contains(tokens.get(at)) && sheets < 10) {
            at++;
            if (took("turn") && number(11) < 0 || took("pass") && number(1000) < 0) {
                return false;
            }
            sheets++;
            return true;
        }
        if (took("load")) {
            load = number(11);
            return load >= 0;
        }
        if (took("lamp")) {
            return number(1000) >= 0 && (took("mixed") || took("slant") && number(11) >= 0);
        }
        return took("stack") && stack(number(3));
    }

    private boolean stack(int stack) {
        if (stack < 0 || number(sheets - 1) < 0) {
            return false;
        }
        int height = 1;
        while (height < 6 && tokens.get(at).matches("[0-9]+")) {
            if (number(sheets - 1) < 0) {
                return false;
            }
            height++;
        }
        stackHeights.set(stack, height);
        return true;
    }
}
