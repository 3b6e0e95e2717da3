import java.util.List;

/**
 * All that can be found out about an object after some calls. Each probe asks an object of its own, made by the same
 * calls, so that it may spoil what it asks for, and each stays below 300 calls of the 512 that an object has.
 */
final class Probe {
    private static final int[] SHARES = {1000, 999, 500, 100, 1, 0};

    private final SlantSheets x = new SlantSheets();
    private final StringBuilder found;

    private Probe(List<Asked> calls, StringBuilder found) {
        this.found = found;
        for (Asked call : calls) {
            call.of(x);
        }
    }

    /** All but status(). */
    static String state(List<Asked> calls) {
        StringBuilder found = new StringBuilder();
        new Probe(calls, found).scene();
        new Probe(calls, found).looks();
        new Probe(calls, found).tape();
        for (int s = 0; s < 4; s++) {
            new Probe(calls, found).row(s);
        }
        new Probe(calls, found).image();
        return found.toString();
    }

    /** All findings, then each of the seven. */
    static int[] status(List<Asked> calls) {
        Probe probe = new Probe(calls, new StringBuilder());
        int[] all = new int[8];
        for (int which = -1; which < 7; which++) {
            all[which + 1] = probe.x.status(which);
        }
        return all;
    }

    private void tell(String what, int v) {
        found.append(what).append(' ').append(v).append('\n');
    }

    private void scene() {
        for (int what = 0; what < 7; what++) {
            tell("count " + what, x.count(what));
        }
        for (int sheet = 0; sheet < x.count(0); sheet++) {
            for (int what = 0; what < 3; what++) {
                tell("sheet " + sheet + ", " + what, x.sheetOf(sheet, what));
            }
        }
        for (int stack = 0; stack < 4; stack++) {
            tell("height " + stack, x.like(stack, stack));
            for (int i = 0; i < 6; i++) {
                tell("stack " + stack + " at " + i, x.at(stack, i));
            }
        }
        for (int spot = 0; spot < 10; spot++) {
            tell("spot " + spot, x.as(spot, 0));
        }
        tell("share", x.lamp(0, 0));
        tell("slant", x.lamp(1, 0));
    }

    private void empty(int stack) {
        for (int height = x.like(stack, stack); height > 0; height--) {
            x.off(stack);
        }
    }

    /** An empty stack fits just where the lamp's own light does. */
    private void looks() {
        empty(0);
        for (int share : SHARES) {
            x.lamp(0, share);
            for (int slant = -1; slant < 12; slant++) {
                x.lamp(1, slant);
                tell("looks by " + share + " at " + slant, x.orders(0));
            }
        }
    }

    private void tape() {
        tell("text", x.text());
        scene();
    }

    private void row(int s) {
        int length = 0;
        while (length < 41 && x.copy(s, length, s, length, 1) == 1) {
            length++;
        }
        tell("row " + s, length);
        tell("row " + s + " is there", x.copy(s, 0, s, 0, 0));
        int other = (s + 1) % 4;
        for (int bits = 8; bits <= 32; bits *= 2) {
            x.row(other, bits, 1);
            if (x.copy(s, 0, other, 0, 0) == 0) {
                tell("row " + s + " has bits", bits);
                numbers(s, length, other);
            }
        }
    }

    /** A number of a row shows where it is that of a sheet. */
    private void numbers(int s, int length, int other) {
        for (int sheets = x.count(0); sheets < 10; sheets++) {
            x.sheet(0, 0, 0);
        }
        empty(0);
        for (int i = 0; i < length; i++) {
            x.copy(s, i, other, 0, 1);
            int came = x.from(other, 0);
            tell("number " + i, came == 0 ? -1 : x.off(0));
        }
    }

    private void image() {
        tell("undo", x.undo());
        scene();
        looks();
    }
}
