/** Promises 1 to 11: a new object, sheets and stacks. */
public final class SheetsTest {
    private static final Check c = new Check();

    public static void main(String[] args) {
        newObject();
        sheet();
        sheetOf();
        change();
        load();
        lamp();
        lay();
        off();
        at();
        round();
        like();
        c.end();
    }

    private static void newObject() {
        SlantSheets x = new SlantSheets();
        c.due("new: status(-1)", x.status(-1), 0);
        int[] counts = {0, 0, 0, 0, 0, 1, 0};
        for (int what = 0; what < 7; what++) {
            c.due("new: count(" + what + ")", x.count(what), counts[what]);
        }
        for (int i = 0; i < 4; i++) {
            c.due("new: like", x.like(i, i), 0);
            c.due("new: through share", x.through(i, true, 0), 1000);
            c.due("new: through slant", x.through(i, false, 1), -1);
            c.due("new: write", x.write(i, 0, 0), Check.MISSING);
        }
        for (int spot = 0; spot < 10; spot++) {
            c.due("new: as", x.as(spot, 0), Check.MISSING);
        }
        c.due("new: sheetOf", x.sheetOf(0, 0), Check.BEYOND);
        c.due("new: clear", x.clear(), 0);
        c.due("new: wipe", x.wipe(), 0);
        c.due("new: undo", x.undo(), Check.NONE);
        c.due("new: tear", x.tear(), 0);
        c.due("new: status(-1) then", x.status(-1), 16);
    }

    private static void sheet() {
        SlantSheets x = new SlantSheets();
        int[][] wrong = {{-1, 0, 0}, {7, 0, 0}, {0, -1, 0}, {0, 12, 0}, {0, 0, -1}, {0, 0, 1001},
            {Integer.MIN_VALUE, 0, 0}, {0, Integer.MAX_VALUE, 0}, {0, 0, Integer.MIN_VALUE}};
        for (int[] w : wrong) {
            c.due("sheet wrong", x.sheet(w[0], w[1], w[2]), Check.BEYOND);
        }
        c.due("count(0)", x.count(0), 0);
        c.due("sheet(0, 0, 0)", x.sheet(0, 0, 0), 0);
        c.due("sheet(6, 11, 1000)", x.sheet(6, 11, 1000), 1);
        for (int i = 2; i < 10; i++) {
            c.due("sheet " + i, x.sheet(i % 7, i, i * 100), i);
        }
        c.due("count(0)", x.count(0), 10);
        c.due("11th sheet", x.sheet(0, 0, 0), Check.FULL);
        c.due("11th sheet, wrong", x.sheet(7, 0, 0), Check.BEYOND);
        c.due("count(0)", x.count(0), 10);
    }

    private static void sheetOf() {
        SlantSheets x = new SlantSheets();
        x.sheet(3, 7, 421);
        x.sheet(5, 11, 0);
        int[][] want = {{3, 7, 421}, {5, 11, 0}};
        for (int sheet = 0; sheet < 2; sheet++) {
            for (int what = 0; what < 3; what++) {
                c.due("sheetOf", x.sheetOf(sheet, what), want[sheet][what]);
            }
        }
        c.due("sheetOf(2, 0)", x.sheetOf(2, 0), Check.BEYOND);
        c.due("sheetOf(-1, 0)", x.sheetOf(-1, 0), Check.BEYOND);
        c.due("sheetOf(0, 3)", x.sheetOf(0, 3), Check.BEYOND);
        c.due("sheetOf(0, -1)", x.sheetOf(0, -1), Check.BEYOND);
    }

    private static void change() {
        SlantSheets x = new SlantSheets();
        x.sheet(1, 2, 3);
        x.sheet(4, 5, 6);
        c.due("change kind", x.change(1, 0, 6), 4);
        c.due("change kind", x.change(1, 0, 0), 6);
        c.due("change turn", x.change(1, 1, 11), 5);
        c.due("change turn", x.change(1, 1, 0), 11);
        c.due("change pass", x.change(1, 2, 1000), 6);
        c.due("change pass", x.change(1, 2, 0), 1000);
        int[][] wrong = {{2, 0, 0}, {-1, 0, 0}, {0, 3, 0}, {0, -1, 0}, {0, 0, 7}, {0, 0, -1},
            {0, 1, 12}, {0, 1, -1}, {0, 2, 1001}, {0, 2, -1}};
        for (int[] w : wrong) {
            c.due("change wrong", x.change(w[0], w[1], w[2]), Check.BEYOND);
        }
        for (int what = 0; what < 3; what++) {
            c.due("the other one stays", x.sheetOf(0, what), what + 1);
            c.due("changed", x.sheetOf(1, what), 0);
        }
    }

    private static void load() {
        SlantSheets x = new SlantSheets();
        c.due("load(11)", x.load(11), 0);
        c.due("load(12)", x.load(12), Check.BEYOND);
        c.due("load(-1)", x.load(-1), Check.BEYOND);
        c.due("count(3)", x.count(3), 11);
        c.due("load(0)", x.load(0), 11);
        c.due("count(3)", x.count(3), 0);
    }

    private static void lamp() {
        SlantSheets x = new SlantSheets();
        c.due("lamp share", x.lamp(0, 0), 1000);
        c.due("lamp share", x.lamp(0, 1000), 0);
        c.due("lamp share", x.lamp(0, 17), 1000);
        c.due("lamp slant", x.lamp(1, 11), -1);
        c.due("lamp slant", x.lamp(1, 0), 11);
        c.due("lamp slant", x.lamp(1, -1), 0);
        c.due("lamp slant", x.lamp(1, 4), -1);
        int[][] wrong = {{0, -1}, {0, 1001}, {1, -2}, {1, 12}, {2, 0}, {-1, 0}};
        for (int[] w : wrong) {
            c.due("lamp wrong", x.lamp(w[0], w[1]), Check.BEYOND);
        }
        c.due("lamp share then", x.lamp(0, 17), 17);
        c.due("lamp slant then", x.lamp(1, 4), 4);
    }

    private static SlantSheets threeSheets() {
        SlantSheets x = new SlantSheets();
        for (int i = 0; i < 3; i++) {
            x.sheet(0, 0, 0);
        }
        return x;
    }

    private static void lay() {
        SlantSheets x = threeSheets();
        c.due("lay(4, 0)", x.lay(4, 0), Check.BEYOND);
        c.due("lay(-1, 0)", x.lay(-1, 0), Check.BEYOND);
        c.due("lay(0, 3)", x.lay(0, 3), Check.BEYOND);
        c.due("lay(0, -1)", x.lay(0, -1), Check.BEYOND);
        for (int i = 0; i < 6; i++) {
            c.due("lay", x.lay(3, i % 3), i + 1);
        }
        c.due("7th", x.lay(3, 0), Check.FULL);
        c.due("7th, no such sheet", x.lay(3, 3), Check.BEYOND);
        c.due("the stack", Check.stack(x, 3), Check.row(0, 1, 2, 0, 1, 2));
        c.due("another one", x.lay(0, 2), 1);
        c.due("count(1)", x.count(1), 7);
    }

    private static void off() {
        SlantSheets x = threeSheets();
        Check.lay(x, 1, 2, 0, 1);
        c.due("off(4)", x.off(4), Check.BEYOND);
        c.due("off(-1)", x.off(-1), Check.BEYOND);
        c.due("off(0)", x.off(0), Check.NONE);
        c.due("off(1)", x.off(1), 1);
        c.due("off(1)", x.off(1), 0);
        c.due("count(1)", x.count(1), 1);
        c.due("off(1)", x.off(1), 2);
        c.due("off(1)", x.off(1), Check.NONE);
    }

    private static void at() {
        SlantSheets x = threeSheets();
        Check.lay(x, 2, 2, 1, 1, 0, 0, 2);
        Check.lay(x, 0, 1);
        int[] want = {2, 1, 1, 0, 0, 2};
        for (int i = 0; i < 6; i++) {
            c.due("at(2, " + i + ")", x.at(2, i), want[i]);
        }
        c.due("at(0, 0)", x.at(0, 0), 1);
        c.due("at(0, 1)", x.at(0, 1), Check.NONE);
        c.due("at(0, 5)", x.at(0, 5), Check.NONE);
        c.due("at(0, 6)", x.at(0, 6), Check.BEYOND);
        c.due("at(0, -1)", x.at(0, -1), Check.BEYOND);
        c.due("at(4, 0)", x.at(4, 0), Check.BEYOND);
        c.due("at(-1, 0)", x.at(-1, 0), Check.BEYOND);
    }

    private static void round() {
        SlantSheets x = threeSheets();
        c.due("round(4)", x.round(4), Check.BEYOND);
        c.due("round(-1)", x.round(-1), Check.BEYOND);
        c.due("round empty", x.round(0), 0);
        Check.lay(x, 0, 0, 1, 2);
        Check.lay(x, 1, 0, 1, 2, 2);
        c.due("round odd", x.round(0), 3);
        c.due("odd", Check.stack(x, 0), Check.row(2, 1, 0));
        c.due("round even", x.round(1), 4);
        c.due("even", Check.stack(x, 1), Check.row(2, 2, 1, 0));
    }

    private static void like() {
        SlantSheets x = threeSheets();
        Check.lay(x, 0, 0, 1, 2);
        Check.lay(x, 1, 2, 2);
        c.due("like(4, 0)", x.like(4, 0), Check.BEYOND);
        c.due("like(0, 4)", x.like(0, 4), Check.BEYOND);
        c.due("like(-1, 0)", x.like(-1, 0), Check.BEYOND);
        c.due("like(0, -1)", x.like(0, -1), Check.BEYOND);
        c.due("like(0, 1)", x.like(0, 1), 2);
        c.due("stack 0", Check.stack(x, 0), Check.row(2, 2));
        c.due("lay(0, 1)", x.lay(0, 1), 3);
        c.due("stack 1 is its own", Check.stack(x, 1), Check.row(2, 2));
        c.due("like(2, 2)", x.like(2, 2), 0);
        c.due("like(0, 2)", x.like(0, 2), 0);
        c.due("stack 0", Check.stack(x, 0), 0);
    }
}
