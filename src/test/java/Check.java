import java.nio.charset.StandardCharsets;

/** What the tests share: the findings, a count of wrong answers, and texts for the tape. */
final class Check {
    static final int BEYOND = -1000001;
    static final int FULL = -1000002;
    static final int KIND = -1000003;
    static final int NONE = -1000004;
    static final int STATE = -1000005;
    static final int MISSING = -1000006;
    static final int SIZE = -1000007;

    static final int SHEET = 0;
    static final int FILTER = 1;
    static final int TURNER = 2;
    static final int HALF = 3;
    static final int SMOKE = 4;
    static final int HORN = 5;
    static final int STRAIN = 6;

    private int asked = 0;
    private int wrong = 0;

    void due(String call, long got, long want) {
        asked++;
        if (got != want) {
            wrong++;
            System.out.println(call + " answered " + got + ", due is " + want);
        }
    }

    void end() {
        System.out.println(asked + " answers, " + wrong + " not as due");
        if (wrong != 0) {
            System.exit(1);
        }
    }

    static SlantSheets lit(int share, int slant) {
        SlantSheets x = new SlantSheets();
        x.lamp(0, share);
        x.lamp(1, slant);
        return x;
    }

    static void lay(SlantSheets x, int stack, int... sheets) {
        for (int sheet : sheets) {
            x.lay(stack, sheet);
        }
    }

    static void feed(SlantSheets x, String text) {
        for (byte b : text.getBytes(StandardCharsets.ISO_8859_1)) {
            x.feed(b, 1);
        }
    }

    static int text(SlantSheets x, String text) {
        x.wipe();
        feed(x, text);
        return x.text();
    }

    /** A stack as a number of base 11: 0 when empty, its sheets each 1 more. Asks nothing that is a finding. */
    static int stack(SlantSheets x, int stack) {
        int all = 0;
        int height = x.like(stack, stack);
        for (int i = 0; i < height; i++) {
            all = all * 11 + x.at(stack, i) + 1;
        }
        return all;
    }

    static int row(int... sheets) {
        int all = 0;
        for (int sheet : sheets) {
            all = all * 11 + sheet + 1;
        }
        return all;
    }
}
