import java.nio.charset.StandardCharsets;
import java.util.ArrayList;
import java.util.Arrays;
import java.util.List;

/** A run of calls on a new object, with what is due; it keeps its calls, so that they can be made on other objects too. */
final class Run {
    private static final int MOST_CALLS = 512;
    private static final int MOST_PROBED = 210;

    private final String test;
    private final Check check;
    private final SlantSheets x = new SlantSheets();
    private final List<Asked> calls = new ArrayList<>();

    Run(String test, Check check) {
        this.test = test;
        this.check = check;
    }

    private int ask(Asked call) {
        calls.add(call);
        if (calls.size() > MOST_CALLS) {
            throw new IllegalStateException(test + ": more calls than an object has");
        }
        return call.of(x);
    }

    /** Calls whose answers are asked for elsewhere; none may be a finding. */
    void does(String... texts) {
        for (String text : texts) {
            Asked call = new Asked(text);
            int answer = ask(call);
            if (answer < -1000000 && !call.tellsZ()) {
                check.due(test + ": " + call, answer, 0);
            }
        }
    }

    void times(int n, String text) {
        for (int i = 0; i < n; i++) {
            does(text);
        }
    }

    void due(String text, int want) {
        Asked call = new Asked(text);
        check.due(test + ": " + call, ask(call), want);
    }

    /** The call answers this, and changes nothing, status() neither. */
    void reads(String text, int want) {
        String before = state();
        int[] findings = Probe.status(calls);
        due(text, want);
        same(text, before);
        check.due(test + ": findings after " + text, sum(Probe.status(calls)) - sum(findings), 0);
    }

    /** The call answers this finding, and changes nothing but status(), which counts it. */
    void refused(String text, int finding) {
        String before = state();
        int[] findings = Probe.status(calls);
        due(text, finding);
        same(text, before);
        findings[0]++;
        findings[Check.BEYOND - finding + 1]++;
        int[] then = Probe.status(calls);
        for (int i = 0; i < then.length; i++) {
            check.due(test + ": status(" + (i - 1) + ") after " + text, then[i], findings[i]);
        }
    }

    /** What stands in the call for # may be low to high; what is just outside, and far outside, is BEYOND. */
    void bounds(String text, int low, int high) {
        for (int wrong : new int[] {low - 1, high + 1, Integer.MIN_VALUE, Integer.MAX_VALUE}) {
            refused(text.replace("#", "" + wrong), Check.BEYOND);
        }
        for (int right : new int[] {low, high}) {
            right(text.replace("#", "" + right));
        }
    }

    /** The call would not be refused; it is asked of another object. */
    private void right(String text) {
        SlantSheets other = new SlantSheets();
        for (Asked call : calls) {
            call.of(other);
        }
        int before = other.status(-1);
        new Asked(text).of(other);
        check.due(test + ": findings of " + text, other.status(-1) - before, 0);
    }

    /** What there is now, but for status(). */
    String state() {
        if (calls.size() > MOST_PROBED) {
            throw new IllegalStateException(test + ": more calls than can be probed");
        }
        return Probe.state(calls);
    }

    /** All is as it was before. */
    void same(String text, String before) {
        String[] now = state().split("\n");
        String[] was = before.split("\n");
        for (int i = 0; i < Math.max(now.length, was.length); i++) {
            String one = i < now.length ? now[i] : "nothing";
            String other = i < was.length ? was[i] : "nothing";
            if (!one.equals(other)) {
                check.due(test + ": after " + text + " there is '" + one + "' for '" + other + "': unlike", 1, 0);
                return;
            }
        }
        check.due(test + ": nothing is changed by " + text, 0, 0);
    }

    private static int sum(int[] numbers) {
        return Arrays.stream(numbers).sum();
    }

    // ---- what many tests begin with

    void sheets(int n) {
        times(n, "sheet(0, 0, 1000)");
    }

    void smokes(int... passes) {
        for (int pass : passes) {
            does("sheet(4, 0, " + pass + ")");
        }
    }

    void lamp(int share, int slant) {
        does("lamp(0, " + share + ")", "lamp(1, " + slant + ")");
    }

    void lays(int stack, int... sheets) {
        for (int sheet : sheets) {
            does("lay(" + stack + ", " + sheet + ")");
        }
    }

    /** A stack is just these sheets. */
    void stackIs(int stack, int... sheets) {
        due("like(" + stack + ", " + stack + ")", sheets.length);
        for (int i = 0; i < sheets.length; i++) {
            due("at(" + stack + ", " + i + ")", sheets[i]);
        }
    }

    void sheetIs(int sheet, int kind, int turn, int pass) {
        due("sheetOf(" + sheet + ", 0)", kind);
        due("sheetOf(" + sheet + ", 1)", turn);
        due("sheetOf(" + sheet + ", 2)", pass);
    }

    void lampIs(int share, int slant) {
        due("lamp(0, " + share + ")", share);
        due("lamp(1, " + slant + ")", slant);
    }

    // ---- texts

    void feeds(String text) {
        byte[] bytes = text.getBytes(StandardCharsets.ISO_8859_1);
        for (int i = 0; i < bytes.length; i += 4) {
            int n = Math.min(4, bytes.length - i);
            int packed = 0;
            for (int j = 0; j < n; j++) {
                packed = packed << 8 | bytes[i + j] & 255;
            }
            does("feed(" + packed + ", " + n + ")");
        }
    }

    void text(String text, int items) {
        feeds(text);
        check.due(test + ": text '" + text + "'", ask(new Asked("text()")), items);
        due("count(4)", 0);
    }

    /** The text has a fault there: that is no finding, and changes nothing but that the tape is empty. */
    void fault(String text, int place) {
        Run wiped = again();
        wiped.does("wipe()");
        String before = wiped.state();
        int findings = sum(Probe.status(calls));
        text(text, -1 - place);
        same("text '" + text + "'", before);
        check.due(test + ": findings of text '" + text + "'", sum(Probe.status(calls)) - findings, 0);
    }

    Run another() {
        return new Run(test, check);
    }

    /** The same calls on another new object. */
    Run again() {
        Run other = another();
        for (Asked call : calls) {
            other.ask(call);
        }
        return other;
    }
}
