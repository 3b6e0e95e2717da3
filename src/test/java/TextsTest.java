/** Promises 35 to 37: texts. */
public final class TextsTest {
    private static final Check c = new Check();

    public static void main(String[] args) {
        feed();
        feedFull();
        wipe();
        sheetItems();
        stackItems();
        lampItems();
        loadItems();
        tokens();
        numbers();
        faults();
        eleventhSheet();
        nothingChanges();
        itemByItem();
        c.end();
    }

    private static void feed() {
        SlantSheets x = new SlantSheets();
        c.due("feed n 0", x.feed(0, 0), Check.BEYOND);
        c.due("feed n 5", x.feed(0, 5), Check.BEYOND);
        c.due("feed n -1", x.feed(0, -1), Check.BEYOND);
        c.due("'xlo' of which 'lo'", x.feed('x' << 16 | 'l' << 8 | 'o', 2), 2);
        c.due("'zzad' of which 'ad '", x.feed('z' << 24 | 'a' << 16 | 'd' << 8 | ' ', 3), 5);
        c.due("'1'", x.feed(0x7fffff00 | '1', 1), 6);
        c.due("'0   '", x.feed('0' << 24 | ' ' << 16 | ' ' << 8 | ' ', 4), 10);
        c.due("count(4)", x.count(4), 10);
        c.due("text()", x.text(), 1);
        c.due("load", x.count(3), 10);
        c.due("feed(-1, 4)", x.feed(-1, 4), 4);
        c.due("text of bytes 255", x.text(), -1);
    }

    private static void feedFull() {
        SlantSheets x = new SlantSheets();
        for (int i = 1; i <= 29; i++) {
            c.due("feed", x.feed(0x20202020, 4), 4 * i);
        }
        c.due("feed 3", x.feed(0x202020, 3), 119);
        c.due("feed 2, no room", x.feed(0x2020, 2), Check.FULL);
        c.due("feed 5, no room", x.feed(0x2020, 5), Check.BEYOND);
        c.due("count(4)", x.count(4), 119);
        c.due("feed 1", x.feed(0x20, 1), 120);
        c.due("feed 1, no room", x.feed(0x20, 1), Check.FULL);
        c.due("text of 120 blanks", x.text(), -121);
        c.due("no finding of that", x.status(-1), 3);
        c.due("count(4)", x.count(4), 0);
    }

    private static void wipe() {
        SlantSheets x = new SlantSheets();
        Check.feed(x, "load 5");
        c.due("wipe()", x.wipe(), 6);
        c.due("wipe()", x.wipe(), 0);
        c.due("count(4)", x.count(4), 0);
        Check.feed(x, "load 7");
        c.due("text()", x.text(), 1);
        c.due("load", x.count(3), 7);
    }

    private static void sheetItems() {
        SlantSheets x = new SlantSheets();
        c.due("seven kinds", Check.text(x, "sheet;filter turn 11;turner turn 0 pass 0;half pass 1000;smoke pass 999;horn turn 5 pass 7;strain"), 7);
        int[][] want = {{0, 0, 1000}, {1, 11, 1000}, {2, 0, 0}, {3, 0, 1000}, {4, 0, 999}, {5, 5, 7}, {6, 0, 1000}};
        c.due("count(0)", x.count(0), 7);
        for (int sheet = 0; sheet < 7; sheet++) {
            for (int what = 0; what < 3; what++) {
                c.due("sheetOf(" + sheet + ", " + what + ")", x.sheetOf(sheet, what), want[sheet][what]);
            }
        }
        c.due("tape is empty", x.count(4), 0);
    }

    private static void stackItems() {
        SlantSheets x = new SlantSheets();
        c.due("stacks", Check.text(x, "sheet; half; stack 3 1 0 1 1 0 0; stack 0 1;stack 1 0 0"), 5);
        c.due("stack 3", Check.stack(x, 3), Check.row(1, 0, 1, 1, 0, 0));
        c.due("stack 0", Check.stack(x, 0), Check.row(1));
        c.due("it is just these", Check.text(x, "stack 3 0;stack 1 1"), 2);
        c.due("stack 3", Check.stack(x, 3), Check.row(0));
        c.due("stack 1", Check.stack(x, 1), Check.row(1));
        c.due("stack 2", Check.stack(x, 2), 0);
    }

    private static void lampItems() {
        SlantSheets x = new SlantSheets();
        c.due("lamp slant", Check.text(x, "lamp 0 slant 11"), 1);
        c.due("share", x.through(0, false, 0), 0);
        c.due("slant", x.through(0, false, 1), 11);
        c.due("lamp mixed", Check.text(x, "lamp 1000 mixed"), 1);
        c.due("share", x.through(0, false, 0), 1000);
        c.due("slant", x.through(0, false, 1), -1);
        c.due("lamp slant 0", Check.text(x, "lamp 5 mixed;lamp 7 slant 0"), 2);
        c.due("share", x.through(0, false, 0), 7);
        c.due("slant", x.through(0, false, 1), 0);
    }

    private static void loadItems() {
        SlantSheets x = new SlantSheets();
        c.due("load", Check.text(x, "load 11"), 1);
        c.due("count(3)", x.count(3), 11);
        c.due("load twice", Check.text(x, "load 4;load 0"), 2);
        c.due("count(3)", x.count(3), 0);
    }

    private static void tokens() {
        SlantSheets x = new SlantSheets();
        c.due("blanks", Check.text(x, "  load   5  ;  sheet turn   3  "), 2);
        c.due("no blanks", Check.text(x, "load6;sheet turn4pass50;stack0 0 1"), 3);
        c.due("turn", x.sheetOf(1, 1), 4);
        c.due("pass", x.sheetOf(1, 2), 50);
        c.due("words as long as can be", Check.text(x, "sheetturn 3"), -1);
        c.due("words as long as can be", Check.text(x, "sheet turnpass 3"), -7);
        c.due("a begun word", Check.text(x, "shee"), -1);
        c.due("a tab is no blank", Check.text(x, "load\t5"), -5);
        c.due("a line's end is no blank", Check.text(x, "load 5\n"), -7);
        c.due("great letters", Check.text(x, "Load 5"), -1);
        c.due("great letters inside", Check.text(x, "loAd 5"), -1);
        c.due("another sign", Check.text(x, "load 5, load 6"), -7);
        c.due("a byte above 127", Check.text(x, "load 5;\u00e4"), -8);
        c.due("byte 0", Check.text(x, "load\u00005"), -5);
        c.due("a minus", Check.text(x, "load -5"), -6);
    }

    private static void numbers() {
        SlantSheets x = new SlantSheets();
        c.due("noughts ahead", Check.text(x, "load 000000000000011"), 1);
        c.due("count(3)", x.count(3), 11);
        c.due("12", Check.text(x, "load 0012"), -6);
        c.due("above 9999", Check.text(x, "load 10000"), -6);
        c.due("2 to the 32nd", Check.text(x, "load 4294967296"), -6);
        c.due("10 to the 20th and 3", Check.text(x, "load 100000000000000000003"), -6);
        c.due("above 9999, pass", Check.text(x, "sheet pass 10005"), -12);
        c.due("two numbers", Check.text(x, "load 1 1"), -8);
    }

    private static void faults() {
        SlantSheets x = new SlantSheets();
        x.sheet(0, 0, 0);
        String[] texts = {"", "   ", ";", "5", "glass", "turn 3", "load;", "load 5;", "load 5;;load 5", "load 5 load 6",
            "load", "load  ", "load 12", "load five", "lamp", "lamp 1001 mixed", "lamp 5", "lamp 5;", "lamp mixed",
            "lamp 5 slant", "lamp 5 slant 12", "lamp 5 mixed 3", "lamp 5 turn 3", "lamp 5 6", "stack", "stack 4 0", "stack 0",
            "stack 0;", "stack 0 1", "stack 0 0 0 0 0 0 0 0", "stack 0 0 0 0 0 0 0 9999", "stack 0 0 sheet", "stack sheet",
            "sheet turn", "sheet turn 12", "sheet turn pass 3", "sheet pass", "sheet pass 1001", "sheet pass 3 turn 3",
            "sheet turn 3 turn 3", "sheet pass 3 pass 3", "sheet 3", "sheet sheet", "sheet;stack 0 2", "sheet;stack 0 1;?",
            "sheet turn 3 mixed", "sheets"};
        int[] places = {0, 3, 0, 0, 0, 0, 4, 7, 7, 7,
            4, 6, 5, 5, 4, 5, 6, 6, 5,
            12, 13, 13, 7, 7, 5, 6, 7,
            7, 8, 20, 20, 10, 6,
            10, 11, 11, 10, 11, 13,
            13, 13, 6, 6, 14, 16,
            13, 0};
        for (int i = 0; i < texts.length; i++) {
            c.due("text '" + texts[i] + "'", Check.text(x, texts[i]), -1 - places[i]);
            c.due("tape then", x.count(4), 0);
        }
        c.due("no findings", x.status(-1), 0);
        c.due("no sheets came", x.count(0), 1);
        c.due("no stacks came", x.count(1), 0);
    }

    private static void eleventhSheet() {
        SlantSheets x = new SlantSheets();
        c.due("ten", Check.text(x, "sheet;half;half;half;half;half;half;half;half;half"), 10);
        c.due("the 11th", Check.text(x, "load 3; horn turn 99"), -9);
        c.due("load stays", x.count(3), 0);
        c.due("other items", Check.text(x, "load 3;stack 0 9"), 2);
        SlantSheets y = new SlantSheets();
        for (int i = 0; i < 8; i++) {
            y.sheet(0, 0, 0);
        }
        c.due("the 11th in a text", Check.text(y, "half;half ; half turn 3"), -13);
        c.due("count(0)", y.count(0), 8);
        c.due("the 10th", Check.text(y, "half;half"), 2);
        c.due("count(0)", y.count(0), 10);
    }

    private static void nothingChanges() {
        SlantSheets x = new SlantSheets();
        x.sheet(1, 2, 3);
        x.lay(2, 0);
        x.load(4);
        c.due("a fault at the end", Check.text(x, "load 5;lamp 3 slant 4;half;stack 2 1 1;stack 1 0;end"), -50);
        c.due("count(0)", x.count(0), 1);
        c.due("count(1)", x.count(1), 1);
        c.due("count(3)", x.count(3), 4);
        c.due("stack 2", Check.stack(x, 2), Check.row(0));
        c.due("lamp", x.lamp(0, 9), 1000);
        c.due("lamp", x.lamp(1, 9), -1);
    }

    private static void itemByItem() {
        SlantSheets x = new SlantSheets();
        x.look(3, 4);
        c.due("no sheet by then", Check.text(x, "stack 0 0;sheet"), -9);
        c.due("a sheet by then", Check.text(x, "sheet;stack 0 0;half;stack 0 1 0"), 4);
        c.due("stack 0", Check.stack(x, 0), Check.row(1, 0));
        c.due("looks stay", x.count(2), 1);
        c.due("z stays", x.count(5), 1);
        c.due("ten items", Check.text(x, "load1;load2;load3;load4;load5;load6;load7;load8;load9;load0"), 10);
        c.due("the last counts", x.count(3), 0);
    }
}
