/** Promises 38 to 44: spots and rows. */
public final class RowsTest {
    private static final Check c = new Check();

    public static void main(String[] args) {
        hold();
        as();
        row();
        write();
        copy();
        copyWrong();
        from();
        fromWrong();
        judge();
        c.end();
    }

    private static void hold() {
        SlantSheets x = new SlantSheets();
        c.due("hold nothing", x.hold(0, -1), 1);
        c.due("hold no such sheet", x.hold(0, 0), Check.BEYOND);
        x.sheet(0, 0, 0);
        x.sheet(0, 0, 0);
        c.due("hold", x.hold(0, 1), 1);
        c.due("hold", x.hold(9, 0), 1);
        c.due("count(6)", x.count(6), 2);
        c.due("hold(10, 0)", x.hold(10, 0), Check.BEYOND);
        c.due("hold(-1, 0)", x.hold(-1, 0), Check.BEYOND);
        c.due("hold(0, 2)", x.hold(0, 2), Check.BEYOND);
        c.due("hold(0, -2)", x.hold(0, -2), Check.BEYOND);
        c.due("as(0, 0)", x.as(0, 0), 1);
        c.due("as(9, 0)", x.as(9, 0), 0);
        c.due("hold nothing", x.hold(0, -1), 1);
        c.due("as(0, 0)", x.as(0, 0), Check.MISSING);
        c.due("count(6)", x.count(6), 1);
    }

    private static void as() {
        SlantSheets x = new SlantSheets();
        boolean[][] is = new boolean[7][7];
        int[][] under = {{0}, {1, 0}, {2, 0}, {3, 2, 0}, {4, 0}, {5, 1, 0}, {6, 2, 0}};
        for (int kind = 0; kind < 7; kind++) {
            for (int upper : under[kind]) {
                is[kind][upper] = true;
            }
            x.sheet(kind, 0, 0);
            x.hold(9 - kind, kind);
        }
        for (int kind = 0; kind < 7; kind++) {
            for (int upper = 0; upper < 7; upper++) {
                c.due("kind " + kind + " as " + upper, x.as(9 - kind, upper), is[kind][upper] ? kind : Check.KIND);
            }
        }
        x.change(5, 0, 2);
        c.due("a changed kind", x.as(4, 2), 5);
        c.due("a changed kind", x.as(4, 1), Check.KIND);
        c.due("as(0, 0)", x.as(0, 0), Check.MISSING);
        c.due("as(0, 7)", x.as(0, 7), Check.BEYOND);
        c.due("as(9, -1)", x.as(9, -1), Check.BEYOND);
        c.due("as(10, 0)", x.as(10, 0), Check.BEYOND);
        c.due("as(-1, 0)", x.as(-1, 0), Check.BEYOND);
    }

    private static void row() {
        SlantSheets x = new SlantSheets();
        c.due("row 8", x.row(0, 8, 40), 40);
        c.due("row 16", x.row(3, 16, 1), 1);
        c.due("row 32", x.row(1, 32, 0), 0);
        c.due("row missing", x.row(2, 0, 40), 0);
        c.due("a row of none is there", x.write(1, 0, 0), Check.BEYOND);
        c.due("a missing one isn't", x.write(2, 0, 0), Check.MISSING);
        c.due("row(4, ..)", x.row(4, 8, 1), Check.BEYOND);
        c.due("row(-1, ..)", x.row(-1, 8, -1), Check.BEYOND);
        c.due("row bits 1", x.row(0, 1, -1), Check.BEYOND);
        c.due("row bits -8", x.row(0, -8, 1), Check.BEYOND);
        c.due("row bits 64", x.row(0, 64, 1), Check.BEYOND);
        c.due("row n -1", x.row(0, 8, -1), Check.SIZE);
        c.due("row bits 0, n -1", x.row(0, 0, -1), Check.SIZE);
        c.due("row n 41", x.row(0, 8, 41), Check.BEYOND);
        c.due("row bits 0, n 41", x.row(0, 0, 41), Check.BEYOND);
        c.due("row 0 stays", x.write(0, 39, 5), 1);
        c.due("row again", x.row(0, 8, 40), 40);
        x.row(1, 8, 40);
        x.lamp(0, 0);
        c.due("all are 0", x.judge(0, 0), 13);
        c.due("it goes missing", x.row(0, 0, 0), 0);
        c.due("it is missing", x.write(0, 0, 0), Check.MISSING);
    }

    private static void write() {
        SlantSheets x = new SlantSheets();
        c.due("write(4, ..)", x.write(4, 0, 0), Check.BEYOND);
        c.due("write(-1, ..)", x.write(-1, 0, 0), Check.BEYOND);
        c.due("write, missing", x.write(0, -1, 0), Check.MISSING);
        x.row(0, 8, 2);
        x.row(1, 16, 2);
        x.row(2, 32, 2);
        c.due("write(0, 2, ..)", x.write(0, 2, 0), Check.BEYOND);
        c.due("write(0, -1, ..)", x.write(0, -1, 0), Check.BEYOND);
        int[] v = {-1, 1, 255, 256, 257, 0x10003, 65536 * 7, Integer.MIN_VALUE + 500, 500};
        for (int i = 0; i < v.length; i++) {
            bits(x, 0, v[i], (byte) v[i]);
            bits(x, 1, v[i], (short) v[i]);
            bits(x, 2, v[i], v[i]);
        }
    }

    /** Writes v ahead of a 0, and asks by judge(), under a mixed lamp, if it reads as want. */
    private static void bits(SlantSheets x, int s, int v, int want) {
        c.due("write(" + s + ", 0, " + v + ")", x.write(s, 0, v), 1);
        x.write(s, 1, 0);
        boolean isSeen = want >= 0 && want <= 500;
        x.lamp(0, isSeen ? want * 2 : 0);
        int due = want == 0 ? 0 : isSeen ? 2 : 1;
        c.due("row " + s + " of " + v, x.judge(s, 0), due);
    }

    /** Ten sheets; what a row holds shows when it is laid on a stack. */
    private static SlantSheets withRow(int s, int bits, int... numbers) {
        SlantSheets x = new SlantSheets();
        for (int i = 0; i < 10; i++) {
            x.sheet(0, 0, 0);
        }
        x.row(s, bits, numbers.length);
        for (int i = 0; i < numbers.length; i++) {
            x.write(s, i, numbers[i]);
        }
        return x;
    }

    private static int held(SlantSheets x, int s) {
        while (x.like(3, 3) > 0) {
            x.off(3);
        }
        x.from(s, 3);
        return Check.stack(x, 3);
    }

    private static void copy() {
        SlantSheets x = withRow(0, 8, 1, 2, 3, 4, 5);
        x.row(1, 8, 4);
        c.due("copy", x.copy(0, 1, 1, 2, 2), 2);
        c.due("copied", held(x, 1), Check.row(0, 0, 2, 3));
        c.due("the first stays", held(x, 0), Check.row(1, 2, 3, 4, 5));
        c.due("copy up in one row", x.copy(0, 0, 0, 1, 4), 4);
        c.due("as they all were", held(x, 0), Check.row(1, 1, 2, 3, 4));
        c.due("copy down in one row", x.copy(0, 1, 0, 0, 4), 4);
        c.due("as they all were", held(x, 0), Check.row(1, 2, 3, 4, 4));
        c.due("copy none", x.copy(0, 5, 1, 4, 0), 0);
        c.due("copy all", x.copy(1, 0, 0, 1, 4), 4);
        c.due("copied", held(x, 0), Check.row(1, 0, 0, 2, 3));
    }

    private static void copyWrong() {
        SlantSheets x = withRow(0, 8, 1, 2, 3, 4, 5);
        x.row(1, 8, 4);
        x.row(2, 16, 4);
        c.due("copy(4, ..)", x.copy(4, 0, 0, 0, 1), Check.BEYOND);
        c.due("copy(-1, ..)", x.copy(-1, 0, 3, 0, 1), Check.BEYOND);
        c.due("copy to row 4", x.copy(0, 0, 4, 0, 1), Check.BEYOND);
        c.due("copy to row -1", x.copy(3, 0, -1, 0, 1), Check.BEYOND);
        c.due("copy from a missing row", x.copy(3, 0, 0, 0, 1), Check.MISSING);
        c.due("copy to a missing row", x.copy(0, -1, 3, 0, 1), Check.MISSING);
        c.due("copy to other bits", x.copy(0, 0, 2, 0, 1), Check.KIND);
        c.due("copy to other bits, wrong", x.copy(0, -1, 2, 0, 1), Check.KIND);
        int max = Integer.MAX_VALUE;
        int[][] wrong = {{-1, 0, 1}, {0, -1, 1}, {0, 0, -1}, {5, 0, 1}, {0, 4, 1}, {0, 0, 5}, {1, 0, 5}, {3, 1, 4},
            {6, 0, 0}, {0, 5, 0}, {max, 0, 1}, {0, max, 1}, {1, 1, max}, {max, max, max}, {-1, -1, Integer.MIN_VALUE}};
        for (int[] w : wrong) {
            c.due("copy from " + w[0] + " to " + w[1] + " n " + w[2], x.copy(0, w[0], 1, w[1], w[2]), Check.BEYOND);
        }
        c.due("nothing copied", held(x, 1), Check.row(0, 0, 0, 0));
    }

    private static void from() {
        SlantSheets x = withRow(0, 32, 9, 0, 3, 10, 1);
        c.due("from", x.from(0, 0), 3);
        c.due("up to one that is none", Check.stack(x, 0), Check.row(9, 0, 3));
        c.due("from again", x.from(0, 0), 3);
        c.due("six", Check.stack(x, 0), Check.row(9, 0, 3, 9, 0, 3));
        c.due("from, no room", x.from(0, 0), 0);
        x.off(0);
        c.due("from, room for one", x.from(0, 0), 1);
        c.due("six", Check.stack(x, 0), Check.row(9, 0, 3, 9, 0, 9));
        x.write(0, 1, -1);
        c.due("from, -1", x.from(0, 1), 1);
        x.row(0, 8, 0);
        c.due("from a row of none", x.from(0, 1), 0);
        x.row(0, 8, 40);
        c.due("from a long row", x.from(0, 2), 6);
        c.due("no findings", x.status(-1), 0);
    }

    private static void fromWrong() {
        SlantSheets x = new SlantSheets();
        c.due("from(4, 0)", x.from(4, 0), Check.BEYOND);
        c.due("from(-1, 4)", x.from(-1, 4), Check.BEYOND);
        c.due("from(0, 4), missing", x.from(0, 4), Check.MISSING);
        x.row(0, 8, 1);
        c.due("from(0, 4)", x.from(0, 4), Check.BEYOND);
        c.due("from(0, -1)", x.from(0, -1), Check.BEYOND);
        c.due("from, no sheets", x.from(0, 0), 0);
    }

    private static void judge() {
        SlantSheets x = Check.lit(1000, 1);
        c.due("judge(4, 0)", x.judge(4, 0), Check.BEYOND);
        c.due("judge(-1, 4)", x.judge(-1, 4), Check.BEYOND);
        c.due("judge(0, 4), missing", x.judge(0, 4), Check.MISSING);
        x.row(0, 16, 13);
        c.due("judge(0, 4)", x.judge(0, 4), Check.BEYOND);
        c.due("judge(0, -1)", x.judge(0, -1), Check.BEYOND);
        int[] seen = {1000, 933, 750, 500, 250, 67, 0, 67, 250, 500, 750, 933};
        x.sheet(Check.TURNER, 11, 0);
        x.lay(1, 0);
        for (int i = 0; i < 12; i++) {
            int due = seen[i] == 0 ? 2 + i : 1 + i;
            c.due("judge, " + i + " are right", x.judge(0, 1), due);
            x.write(0, i, seen[i]);
        }
        c.due("no tilt 12", x.judge(0, 1), 13);
        x.row(1, 16, 12);
        x.copy(0, 0, 1, 0, 12);
        c.due("judge, all are right", x.judge(1, 1), 0);
        c.due("judge another stack", x.judge(1, 0), 1);
        x.row(1, 16, 0);
        c.due("judge a row of none", x.judge(1, 0), 0);
        x.row(1, 8, 1);
        x.write(1, 0, 232);
        x.lamp(0, 232);
        c.due("232 of 8 bits is -24", x.judge(1, 1), 1);
    }
}
