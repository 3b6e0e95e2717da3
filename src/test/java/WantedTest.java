/** Promises 19 to 23: what is wanted. */
public final class WantedTest {
    private static final Check c = new Check();

    public static void main(String[] args) {
        loads();
        nearest();
        fewest();
        fewestEdges();
        turnFor();
        spare();
        c.end();
    }

    private static void loads() {
        SlantSheets x = Check.lit(1000, 0);
        x.load(5);
        x.sheet(Check.STRAIN, 1, 0);
        x.lay(1, 0);
        c.due("loads of 933", x.loads(1, 0, 933), 1 | 1 << 10);
        c.due("loads of 1000", x.loads(1, 0, 1000), 1 << 11);
        c.due("loads of 1000, front", x.loads(1, 3, 1000), 1 << 2);
        c.due("loads of 999", x.loads(1, 0, 999), 0);
        c.due("loads without strain", x.loads(0, 0, 1000), 4095);
        c.due("load stays", x.count(3), 5);
        c.due("loads(4, ..)", x.loads(4, 0, 0), Check.BEYOND);
        c.due("loads(-1, ..)", x.loads(-1, 0, 0), Check.BEYOND);
        c.due("loads tilt 12", x.loads(0, 12, 0), Check.BEYOND);
        c.due("loads tilt -1", x.loads(0, -1, 0), Check.BEYOND);
        c.due("loads v 1001", x.loads(0, 0, 1001), Check.BEYOND);
        c.due("loads v -1", x.loads(0, 0, -1), Check.BEYOND);
    }

    private static void nearest() {
        SlantSheets x = Check.lit(1000, 0);
        c.due("nearest of no sheets", x.nearest(0, 0, 0), Check.NONE);
        c.due("nearest of no sheets, wrong", x.nearest(4, 0, 0), Check.BEYOND);
        x.sheet(Check.SMOKE, 0, 500);
        x.sheet(Check.SMOKE, 0, 400);
        x.sheet(Check.SHEET, 0, 0);
        x.sheet(Check.TURNER, 2, 0);
        c.due("nearest to 450", x.nearest(0, 0, 450), 0);
        c.due("nearest to 449", x.nearest(0, 0, 449), 1);
        c.due("nearest to 1000", x.nearest(0, 0, 1000), 2);
        c.due("nearest to 0", x.nearest(0, 0, 0), 1);
        c.due("nearest, front", x.nearest(0, 2, 1000), 3);
        Check.lay(x, 1, 0, 0);
        c.due("nearest behind two", x.nearest(1, 0, 249), 2);
        c.due("nearest behind two", x.nearest(1, 0, 130), 0);
        c.due("the stack stays", Check.stack(x, 1), Check.row(0, 0));
        Check.lay(x, 1, 2, 2, 2, 2);
        c.due("nearest behind six", x.nearest(1, 0, 100), 1);
        c.due("nearest(-1, ..)", x.nearest(-1, 0, 0), Check.BEYOND);
        c.due("nearest tilt 12", x.nearest(0, 12, 0), Check.BEYOND);
        c.due("nearest tilt -1", x.nearest(0, -1, 0), Check.BEYOND);
        c.due("nearest v 1001", x.nearest(0, 0, 1001), Check.BEYOND);
        c.due("nearest v -1", x.nearest(0, 0, -1), Check.BEYOND);
    }

    private static void fewest() {
        SlantSheets x = Check.lit(1000, 0);
        x.sheet(Check.SMOKE, 0, 500);
        x.sheet(Check.SMOKE, 0, 900);
        c.due("fewest of 1000", x.fewest(0, 0, 1000), 0);
        c.due("fewest of 500", x.fewest(0, 0, 500), 1);
        c.due("fewest of 900", x.fewest(0, 0, 900), 1);
        c.due("fewest of 250", x.fewest(0, 0, 250), 2);
        c.due("fewest of 450", x.fewest(0, 0, 450), 2);
        c.due("fewest of 125", x.fewest(0, 0, 125), 3);
        c.due("fewest of 405", x.fewest(0, 0, 405), 3);
        c.due("fewest of 729", x.fewest(0, 0, 729), 3);
        c.due("fewest of 62", x.fewest(0, 0, 62), Check.NONE);
        c.due("fewest of 656", x.fewest(0, 0, 656), Check.NONE);
        Check.lay(x, 1, 0, 1, 1);
        c.due("fewest behind three: 405", x.fewest(1, 0, 405), 0);
        c.due("fewest behind three: 50", x.fewest(1, 0, 50), 3);
        c.due("the stack stays", Check.stack(x, 1), Check.row(0, 1, 1));
        c.due("fewest behind three: 1000", x.fewest(1, 0, 1000), Check.NONE);
        x.lay(1, 0);
        c.due("fewest behind four", x.fewest(1, 0, 0), Check.SIZE);
        c.due("fewest behind four, wrong", x.fewest(1, 12, 0), Check.BEYOND);
        SlantSheets y = Check.lit(1000, 0);
        y.sheet(Check.TURNER, 2, 0);
        c.due("fewest, front", y.fewest(0, 2, 1000), 1);
        c.due("fewest, front", y.fewest(0, 10, 1000), Check.NONE);
    }

    private static void fewestEdges() {
        SlantSheets x = Check.lit(1000, 0);
        c.due("fewest, no sheets", x.fewest(0, 0, 1000), 0);
        c.due("fewest, no sheets", x.fewest(0, 0, 1), Check.NONE);
        c.due("fewest(4, ..)", x.fewest(4, 0, 0), Check.BEYOND);
        c.due("fewest(-1, ..)", x.fewest(-1, 0, 0), Check.BEYOND);
        c.due("fewest tilt -1", x.fewest(0, -1, 0), Check.BEYOND);
        c.due("fewest v 1001", x.fewest(0, 0, 1001), Check.BEYOND);
        c.due("fewest v -1", x.fewest(0, 0, -1), Check.BEYOND);
    }

    private static void turnFor() {
        SlantSheets x = Check.lit(1000, 0);
        x.load(3);
        x.sheet(Check.FILTER, 9, 0);
        x.sheet(Check.TURNER, 9, 0);
        x.sheet(Check.STRAIN, 9, 0);
        x.sheet(Check.HALF, 9, 0);
        x.lay(0, 0);
        Check.lay(x, 1, 1, 1);
        x.lay(2, 2);
        x.lay(3, 3);
        c.due("turn for a filter between", x.turnFor(0, 0, 4), 2);
        c.due("turn for a turner, twice", x.turnFor(1, 1, 4), 2);
        c.due("turn for a turner, twice", x.turnFor(1, 1, 1), 0);
        c.due("turn for a strain", x.turnFor(2, 2, 4), 1);
        c.due("turn for a strain", x.turnFor(2, 2, 1), 10);
        c.due("turn for a half", x.turnFor(3, 3, 10), 5);
        c.due("turn of one that isn't there", x.turnFor(3, 2, 4), 0);
        for (int sheet = 0; sheet < 4; sheet++) {
            c.due("turns stay", x.sheetOf(sheet, 1), 9);
        }
        c.due("turnFor(4, ..)", x.turnFor(4, 0, 0), Check.BEYOND);
        c.due("turnFor(-1, ..)", x.turnFor(-1, 0, 0), Check.BEYOND);
        c.due("turnFor stack 4", x.turnFor(0, 4, 0), Check.BEYOND);
        c.due("turnFor stack -1", x.turnFor(0, -1, 0), Check.BEYOND);
        c.due("turnFor tilt 12", x.turnFor(0, 0, 12), Check.BEYOND);
        c.due("turnFor tilt -1", x.turnFor(0, 0, -1), Check.BEYOND);
    }

    private static void spare() {
        SlantSheets x = Check.lit(1000, 0);
        c.due("spare, empty", x.spare(0, 0), Check.NONE);
        c.due("spare, empty, wrong", x.spare(0, 12), Check.BEYOND);
        x.sheet(Check.SMOKE, 0, 500);
        x.sheet(Check.SHEET, 0, 0);
        x.sheet(Check.SMOKE, 0, 800);
        Check.lay(x, 0, 0, 1, 1);
        c.due("spare, of two alike", x.spare(0, 0), 1);
        Check.lay(x, 1, 0, 2, 0);
        c.due("spare, the clearest", x.spare(1, 0), 1);
        Check.lay(x, 2, 0);
        c.due("spare, of one", x.spare(2, 0), 0);
        x.sheet(Check.TURNER, 1, 0);
        Check.lay(x, 3, 0, 3, 2);
        c.due("spare at 6", x.spare(3, 6), 2);
        c.due("spare at 0", x.spare(3, 0), 1);
        c.due("spare at 7", x.spare(3, 7), 0);
        c.due("the stack stays", Check.stack(x, 3), Check.row(0, 3, 2));
        c.due("spare(4, ..)", x.spare(4, 0), Check.BEYOND);
        c.due("spare(-1, ..)", x.spare(-1, 0), Check.BEYOND);
        c.due("spare tilt -1", x.spare(0, -1), Check.BEYOND);
    }
}
