/** Promises 45 to 49: images, counts, status. */
public final class ImagesTest {
    private static final Check c = new Check();

    public static void main(String[] args) {
        imageAndUndo();
        latestStays();
        tear();
        count();
        status();
        statusOfEach();
        c.end();
    }

    private static SlantSheets filled() {
        SlantSheets x = new SlantSheets();
        x.sheet(1, 2, 3);
        x.sheet(4, 5, 6);
        x.load(7);
        x.lamp(0, 800);
        x.lamp(1, 9);
        Check.lay(x, 2, 1, 0, 1);
        x.look(3, 400);
        x.seed(77);
        x.hold(5, 1);
        Check.feed(x, "load");
        x.row(0, 8, 3);
        return x;
    }

    private static void imageAndUndo() {
        SlantSheets x = filled();
        c.due("undo, nothing kept", x.undo(), Check.NONE);
        c.due("image()", x.image(), 1);
        x.sheet(0, 0, 0);
        x.change(0, 0, 6);
        x.change(0, 1, 6);
        x.change(1, 2, 600);
        x.load(1);
        x.lamp(0, 1);
        x.lamp(1, -1);
        x.off(2);
        x.lay(3, 2);
        x.clear();
        x.look(1, 1);
        x.look(2, 2);
        x.seed(5);
        x.hold(5, 2);
        x.hold(6, 2);
        Check.feed(x, " 3");
        x.row(0, 0, 0);
        x.row(1, 16, 4);
        c.due("undo()", x.undo(), 2);
        int[] counts = {2, 3, 1, 7, 6, 77, 1};
        for (int what = 0; what < 7; what++) {
            c.due("count(" + what + ") after undo", x.count(what), counts[what]);
        }
        int[][] sheets = {{1, 2, 3}, {4, 5, 6}};
        for (int i = 0; i < 6; i++) {
            c.due("sheetOf after undo", x.sheetOf(i / 3, i % 3), sheets[i / 3][i % 3]);
        }
        c.due("stack 2", Check.stack(x, 2), Check.row(1, 0, 1));
        c.due("stack 3", Check.stack(x, 3), 0);
        c.due("share", x.lamp(0, 800), 800);
        c.due("slant", x.lamp(1, 9), 9);
        c.due("the spot", x.as(5, 4), 1);
        c.due("rows stay as they are", x.write(0, 0, 0), Check.MISSING);
        c.due("rows stay as they are", x.write(1, 3, 0), 1);
        c.due("the tape stays as it is", x.text(), 1);
        lookAfterUndo(x);
    }

    private static void lookAfterUndo(SlantSheets x) {
        x.lamp(0, 400);
        x.lamp(1, 3);
        c.due("the look is the old one", x.orders(0), 1);
        x.lamp(1, 4);
        c.due("the look is the old one", x.orders(0), 0);
    }

    private static void latestStays() {
        SlantSheets x = new SlantSheets();
        x.image();
        x.sheet(0, 0, 0);
        x.lay(0, 0);
        x.image();
        x.sheet(0, 0, 0);
        c.due("undo()", x.undo(), 1);
        x.change(0, 1, 5);
        x.lay(0, 0);
        c.due("undo() again", x.undo(), 1);
        c.due("turn", x.sheetOf(0, 1), 0);
        c.due("stack 0", Check.stack(x, 0), Check.row(0));
        x.years(1);
        c.due("undo() once more", x.undo(), 1);
        SlantSheets y = new SlantSheets();
        y.image();
        y.sheet(0, 0, 0);
        y.hold(0, 0);
        c.due("undo() to no sheets", y.undo(), 0);
        c.due("sheetOf", y.sheetOf(0, 0), Check.BEYOND);
        c.due("as", y.as(0, 0), Check.MISSING);
    }

    private static void tear() {
        SlantSheets x = new SlantSheets();
        c.due("tear()", x.tear(), 0);
        x.image();
        x.image();
        c.due("tear()", x.tear(), 1);
        c.due("tear()", x.tear(), 0);
        c.due("undo()", x.undo(), Check.NONE);
        x.image();
        c.due("undo()", x.undo(), 0);
        c.due("tear() after undo()", x.tear(), 1);
    }

    private static void count() {
        SlantSheets x = filled();
        Check.lay(x, 0, 0, 0);
        int[] counts = {2, 5, 1, 7, 4, 77, 1};
        for (int what = 0; what < 7; what++) {
            c.due("count(" + what + ")", x.count(what), counts[what]);
        }
        c.due("count(7)", x.count(7), Check.BEYOND);
        c.due("count(-1)", x.count(-1), Check.BEYOND);
    }

    private static void status() {
        SlantSheets x = new SlantSheets();
        c.due("status(0)", x.status(0), 0);
        c.due("status(7)", x.status(7), Check.BEYOND);
        c.due("status(0)", x.status(0), 1);
        c.due("status(-2)", x.status(-2), Check.BEYOND);
        c.due("status(0)", x.status(0), 2);
        c.due("status(-1)", x.status(-1), 2);
        x.image();
        x.off(0);
        c.due("undo()", x.undo(), 0);
        c.due("status(3)", x.status(3), 1);
        c.due("status(-1)", x.status(-1), 3);
        x.text();
        x.seed(-1000003);
        x.seed(-1000003);
        c.due("no findings", x.status(-1), 3);
    }

    private static void statusOfEach() {
        SlantSheets x = new SlantSheets();
        x.load(12);
        for (int i = 0; i < 6; i++) {
            x.look(0, 0);
        }
        x.sheet(0, 0, 0);
        x.hold(0, 0);
        for (int i = 0; i < 3; i++) {
            x.as(0, 1);
        }
        for (int i = 0; i < 4; i++) {
            x.off(0);
        }
        SlantSheets y = new SlantSheets();
        y.drawn(0, 1);
        for (int i = 0; i < 5; i++) {
            x.write(0, 0, 0);
            x.row(0, 0, -1);
        }
        x.row(0, 0, -1);
        int[] want = {1, 2, 3, 4, 0, 5, 6};
        for (int which = 0; which < 7; which++) {
            c.due("status(" + which + ")", x.status(which), want[which]);
        }
        c.due("status(-1)", x.status(-1), 21);
        c.due("status(4) of the other", y.status(4), 1);
    }
}
