import java.util.Random;

/**
 * Promise 37 on random texts, held against a second reading of them. The seeds are fixed: each run is the same again.
 */
public final class PlainTextTest {
    private static final Check c = new Check();
    private static final String[] ITEMS = {"sheet", "half turn 3", "horn pass 20", "strain turn 11 pass 0", "stack 0 0",
        "stack 3 1 0 2", "stack 1 0 1 2 3 4 5", "lamp 1000 mixed", "lamp 0 slant 11", "load 11", "load 00", "smoke", "turner turn0"};
    private static final String[] TOKENS = {";", " ; ", "sheet", "turn", "pass", "stack", "lamp", "load", "mixed", "slant", "0",
        " 1 ", " 3 ", " 11", " 12 ", " 1000 ", " 1001 ", " 10000", " 99999999999 ", "?", "x", "", " ", "\n", "\u00e9"};

    public static void main(String[] args) {
        Random random = new Random(37);
        int whole = 0;
        for (int i = 0; i < 20000; i++) {
            String text = anyText(random);
            int sheets = random.nextInt(4) == 0 ? 7 + random.nextInt(4) : random.nextInt(4);
            whole += ask(text, sheets) ? 1 : 0;
        }
        c.due("a fair share of the texts has no fault: " + whole, whole > 2000 && whole < 18000 ? 1 : 0, 1);
        c.end();
    }

    /** Some items, of which a few signs may have been taken, or put in; at most 120 bytes. */
    static String anyText(Random random) {
        StringBuilder text = new StringBuilder();
        int items = 1 + random.nextInt(6);
        for (int i = 0; i < items; i++) {
            text.append(i == 0 ? "" : random.nextInt(5) == 0 ? " ; " : ";").append(ITEMS[random.nextInt(ITEMS.length)]);
        }
        for (int i = random.nextInt(3); i > 0; i--) {
            int place = random.nextInt(text.length() + 1);
            int end = Math.min(text.length(), place + random.nextInt(3));
            text.replace(place, end, TOKENS[random.nextInt(TOKENS.length)]);
        }
        return text.length() > 120 ? text.substring(0, 120) : text.toString();
    }

    private static boolean ask(String text, int sheets) {
        SlantSheets x = new SlantSheets();
        PlainModel before = new PlainModel();
        for (int i = 0; i < sheets; i++) {
            x.sheet(0, 0, 0);
            before.sheets.add(new int[] {0, 0, 0});
        }
        PlainModel then = before.copy();
        int due = new PlainText(text, then).answer();
        PlainModel m = due > 0 ? then : before;
        c.due("text '" + text + "' over " + sheets + " sheets", Check.text(x, text), due);
        c.due("its sheets", x.count(0), m.sheets.size());
        for (int sheet = 0; sheet < m.sheets.size(); sheet++) {
            for (int what = 0; what < 3; what++) {
                c.due("its sheet " + sheet + ", " + what, x.sheetOf(sheet, what), m.sheets.get(sheet)[what]);
            }
        }
        c.due("its load", x.count(3), m.load);
        c.due("its lamp's share", x.lamp(0, 0), m.lamp[0]);
        c.due("its lamp's slant", x.lamp(1, 0), m.lamp[1]);
        for (int stack = 0; stack < 4; stack++) {
            int[] row = m.stacks.get(stack).stream().mapToInt(Integer::intValue).toArray();
            c.due("its stack " + stack, Check.stack(x, stack), Check.row(row));
        }
        return due > 0;
    }
}
