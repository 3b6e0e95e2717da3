import java.nio.charset.StandardCharsets;
import java.util.ArrayList;
import java.util.List;
import java.util.Map;
import java.util.Random;
import java.util.TreeMap;

/**
 * All promises in random runs of 512 calls, right and wrong ones, each answer held against the plain object.
 * The seeds are fixed: each run is the same again.
 */
public final class PlainObjectTest {
    private static final int RUNS = 300;
    private static final int CALLS = 512;
    /** What each call is asked for: letters as any(..) reads them. */
    private static final String[] FACE = {"sheet ktp", "sheetOf #w", "change #wv", "load t", "lamp al", "lay s#", "off s",
        "at si", "round s", "like ss", "through sba", "seen sbt", "bright sb", "dark sb", "alike ssz", "sky ha", "hours stp",
        "loads stp", "nearest stp", "fewest stp", "turnFor #st", "spare st", "look tp", "clear", "orders s", "order s",
        "apart s", "pairs tz", "signs tz", "eyes z", "years y", "drawn sn", "seed *", "feed *f", "wipe", "text", "hold o#",
        "as ok", "row sgm", "write siv", "copy sisim", "from ss", "judge ss", "image", "undo", "tear", "count k", "status k"};
    /** What takes away much of what there is; else little would ever be there. */
    private static final List<String> RARE = List.of("undo", "tear", "clear", "row sgm");
    private static final int OFTEN = 50;
    private static final int[] WRONG = {Integer.MIN_VALUE, -1000001, -2, -1, 4, 6, 7, 10, 12, 24, 41, 101, 1001, Integer.MAX_VALUE};
    private static final int[] VIEWS = {0, 50, 67, 125, 250, 466, 500, 750, 933, 1000};

    private static final Check c = new Check();
    private static final Map<String, Integer> right = new TreeMap<>();
    private final SlantSheets x = new SlantSheets();
    private final PlainObject plain = new PlainObject();
    private final Random random;
    private final String run;
    private final int wildness;
    private int calls = 0;

    private PlainObjectTest(int seed) {
        random = new Random(seed);
        run = "run " + seed + ", call ";
        wildness = 5 + random.nextInt(60);
    }

    public static void main(String[] args) {
        for (int seed = 1; seed <= RUNS; seed++) {
            new PlainObjectTest(seed).go();
        }
        for (String call : FACE) {
            String name = call.split(" ")[0];
            c.due(name + " was answered without a finding, often", right.getOrDefault(name, 0) >= OFTEN ? 1 : 0, 1);
        }
        c.end();
    }

    private void go() {
        while (calls < CALLS) {
            int now = random.nextInt(calls < 60 ? 70 : 400);
            if (now < 15) {
                ask("sheet ktp");
            } else if (now < 30) {
                ask("lay s#");
            } else if (now < 36) {
                text();
            } else if (now < 42) {
                seenRow();
            } else if (now < 46) {
                sheetRow();
            } else if (now < 52) {
                ask(now < 49 ? "hold o#" : "copy sisim");
            } else {
                String call = FACE[any(FACE.length)];
                if (!RARE.contains(call) || any(4) == 0) {
                    ask(call);
                }
            }
        }
    }

    private int any(int end) {
        return random.nextInt(end);
    }

    private int any(char what) {
        if (any(wildness) == 0) {
            return WRONG[any(WRONG.length)];
        }
        switch (what) {
            case 'k': return any(3) == 0 ? any(3) : any(7);
            case 't': return any(12);
            case 'l': return any(13) - 1;
            case 'p': return any(3) == 0 ? any(1001) : any(2) == 0 ? VIEWS[any(VIEWS.length)] : view();
            case 'z': return any(3) == 0 ? any(1001) : any(60);
            case '#': return any(Math.max(1, plain.m.sheets.size()));
            case 'w': return any(3);
            case 'v': return any(2) == 0 ? any(10) : any(1001);
            case 'a': return any(2);
            case 's': return any(4);
            case 'i': return any(6);
            case 'h': return any(24);
            case 'y': return 1 + any(100);
            case 'n': return 1 + any(6);
            case 'f': return 1 + any(4);
            case 'o': return any(10);
            case 'g': return any(8) == 0 ? 0 : 8 << any(3);
            case 'm': return any(6) == 0 ? any(42) - 1 : any(8);
            default: return any(3) == 0 ? any(256) : any(2) == 0 ? any(4) << 8 | any(10) : random.nextInt();
        }
    }

    /** A number that is seen through some stack. */
    private int view() {
        return plain.m.seenThrough(plain.m.stacks.get(any(4)), any(12));
    }

    private void ask(String call) {
        String letters = call.substring(call.indexOf(' ') + 1);
        if (letters.equals(call)) {
            due(call);
            return;
        }
        int[] numbers = new int[letters.length()];
        for (int i = 0; i < numbers.length; i++) {
            numbers[i] = letters.charAt(i) == 'b' ? any(2) : any(letters.charAt(i));
        }
        due(call.substring(0, call.indexOf(' ')), numbers);
    }

    private void due(String name, int... numbers) {
        if (calls == CALLS) {
            return;
        }
        boolean behind = List.of("through", "seen", "bright", "dark").contains(name);
        List<String> words = new ArrayList<>();
        for (int i = 0; i < numbers.length; i++) {
            words.add(behind && i == 1 ? "" + (numbers[i] == 1) : "" + numbers[i]);
        }
        String call = name + "(" + String.join(", ", words) + ")";
        int want = plain.answer(name, numbers);
        c.due(run + calls + ": " + call, new Asked(call).of(x), want);
        calls++;
        if (want >= -1000000) {
            right.merge(name, 1, Integer::sum);
        }
    }

    private void text() {
        byte[] bytes = PlainTextTest.anyText(random).getBytes(StandardCharsets.ISO_8859_1);
        due("wipe");
        for (int i = 0; i < bytes.length; ) {
            int n = Math.min(1 + any(4), bytes.length - i);
            int packed = random.nextInt();
            for (int end = i + n; i < end; i++) {
                packed = packed << 8 | bytes[i] & 255;
            }
            due("feed", packed, n);
        }
        due("text");
    }

    /** A row of what is seen through a stack, or nearly, so that judge() has something to find; its higher bits don't count. */
    private void seenRow() {
        int s = any(4);
        int stack = any(4);
        int n = 1 + any(14);
        due("row", s, 16, n);
        for (int i = 0; i < n; i++) {
            int seen = plain.m.seenThrough(plain.m.stacks.get(stack), i % 12);
            due("write", s, i, (any(20) == 0 ? any(1001) : seen) | any(4) << 16);
        }
        due("judge", s, stack);
    }

    /** A row of sheets, for from() to lay; of 8 bits, the higher ones don't count. */
    private void sheetRow() {
        int s = any(4);
        int stack = any(4);
        int n = 1 + any(7);
        due("row", s, 8 << any(3), n);
        for (int i = 0; i < n; i++) {
            due("write", s, i, any('#') | (any(4) == 0 ? any(4) << 8 : 0));
        }
        due("from", s, stack);
        due("at", stack, any(6));
    }
}
