/** Promises 12 to 18: what is seen. */
public final class SeenTest {
    private static final Check c = new Check();
    private static final int[] COS_FROM_0 = {1000, 933, 750, 500, 250, 67, 0, 67, 250, 500, 750, 933};

    public static void main(String[] args) {
        throughEachKind();
        throughStacks();
        throughWrong();
        seen();
        bright();
        dark();
        alike();
        sky();
        hours();
        c.end();
    }

    /** Asks for a light through one sheet alone. */
    private static void one(int kind, int turn, int pass, boolean behind, int share, int slant, int wantShare, int wantSlant) {
        SlantSheets x = Check.lit(share, slant);
        x.load(10);
        x.sheet(kind, turn, pass);
        x.lay(2, 0);
        String call = "kind " + kind + " turn " + turn + " pass " + pass + " behind " + behind + " of " + share + " at " + slant;
        c.due(call + ": share", x.through(2, behind, 0), wantShare);
        c.due(call + ": slant", x.through(2, behind, 1), wantSlant);
    }

    private static void throughEachKind() {
        one(Check.SHEET, 3, 500, false, 777, 4, 777, 4);
        one(Check.SHEET, 3, 500, true, 777, -1, 777, -1);
        one(Check.FILTER, 3, 500, false, 1000, -1, 500, 3);
        one(Check.FILTER, 3, 500, false, 333, -1, 166, 3);
        one(Check.FILTER, 3, 500, false, 333, 2, 310, 3);
        one(Check.FILTER, 1, 500, false, 1000, 11, 750, 1);
        one(Check.FILTER, 3, 500, true, 1000, 9, 1000, 9);
        one(Check.FILTER, 3, 500, true, 1000, 3, 0, 9);
        one(Check.FILTER, 0, 500, true, 1000, 1, 933, 0);
        for (int slant = 0; slant < 12; slant++) {
            one(Check.FILTER, 0, 0, false, 1000, slant, COS_FROM_0[slant], 0);
        }
        one(Check.TURNER, 5, 500, false, 800, 9, 800, 2);
        one(Check.TURNER, 5, 500, true, 800, 9, 800, 4);
        one(Check.TURNER, 0, 500, true, 800, 9, 800, 9);
        one(Check.TURNER, 5, 500, false, 800, -1, 800, -1);
        one(Check.HALF, 2, 500, false, 800, 9, 800, 7);
        one(Check.HALF, 2, 500, true, 800, 9, 800, 11);
        one(Check.HALF, 11, 500, false, 800, 0, 800, 10);
        one(Check.HALF, 2, 500, false, 800, -1, 800, -1);
        one(Check.SMOKE, 2, 333, false, 1000, 4, 333, 4);
        one(Check.SMOKE, 2, 333, true, 100, 4, 33, 4);
        one(Check.SMOKE, 2, 0, false, 1000, -1, 0, -1);
        one(Check.SMOKE, 2, 1000, false, 999, -1, 999, -1);
        one(Check.HORN, 3, 900, false, 1000, -1, 450, 3);
        one(Check.HORN, 3, 900, false, 333, 2, 279, 3);
        one(Check.HORN, 3, 900, true, 1000, 9, 900, 9);
        one(Check.STRAIN, 4, 500, false, 800, 9, 800, 11);
        one(Check.STRAIN, 4, 500, true, 800, 9, 800, 7);
        one(Check.STRAIN, 2, 500, true, 800, 9, 800, 9);
        one(Check.STRAIN, 4, 500, false, 800, -1, 800, -1);
    }

    private static void throughStacks() {
        SlantSheets x = new SlantSheets();
        x.sheet(Check.FILTER, 0, 0);
        x.sheet(Check.TURNER, 3, 0);
        Check.lay(x, 0, 0, 1);
        c.due("front: share", x.through(0, false, 0), 500);
        c.due("front: slant", x.through(0, false, 1), 3);
        c.due("behind: share", x.through(0, true, 0), 500);
        c.due("behind: slant", x.through(0, true, 1), 0);
        Check.lay(x, 0, 0, 1, 1, 1);
        c.due("six, front: share", x.through(0, false, 0), 250);
        c.due("six, front: slant", x.through(0, false, 1), 9);
        c.due("six, behind: share", x.through(0, true, 0), 250);
        c.due("six, behind: slant", x.through(0, true, 1), 0);
    }

    private static void throughWrong() {
        SlantSheets x = new SlantSheets();
        c.due("through(4, ..)", x.through(4, false, 0), Check.BEYOND);
        c.due("through(-1, ..)", x.through(-1, true, 0), Check.BEYOND);
        c.due("through what 2", x.through(0, false, 2), Check.BEYOND);
        c.due("through what -1", x.through(0, false, -1), Check.BEYOND);
    }

    private static void seen() {
        SlantSheets x = Check.lit(1000, 0);
        for (int tilt = 0; tilt < 12; tilt++) {
            c.due("seen at " + tilt, x.seen(0, false, tilt), COS_FROM_0[tilt]);
        }
        x.lamp(0, 777);
        c.due("seen of 777", x.seen(0, false, 11), 724);
        x.lamp(1, -1);
        c.due("seen of mixed 777", x.seen(0, true, 11), 388);
        x.lamp(1, 0);
        x.lamp(0, 1000);
        x.sheet(Check.TURNER, 2, 0);
        x.lay(1, 0);
        c.due("seen, front", x.seen(1, false, 3), 933);
        c.due("seen, behind", x.seen(1, true, 3), 67);
        c.due("seen(4, ..)", x.seen(4, false, 0), Check.BEYOND);
        c.due("seen(-1, ..)", x.seen(-1, false, 0), Check.BEYOND);
        c.due("seen tilt 12", x.seen(0, false, 12), Check.BEYOND);
        c.due("seen tilt -1", x.seen(0, false, -1), Check.BEYOND);
    }

    private static void bright() {
        SlantSheets x = Check.lit(1000, 4);
        x.sheet(Check.TURNER, 3, 0);
        x.lay(1, 0);
        c.due("bright", x.bright(0, false), 4);
        c.due("bright, front", x.bright(1, false), 7);
        c.due("bright, behind", x.bright(1, true), 1);
        x.lamp(1, 11);
        c.due("bright at 11", x.bright(0, false), 11);
        x.lamp(0, 0);
        c.due("bright of nothing", x.bright(0, false), 0);
        x.lamp(0, 1000);
        x.lamp(1, -1);
        c.due("bright of mixed", x.bright(1, true), 0);
        c.due("bright(4)", x.bright(4, false), Check.BEYOND);
        c.due("bright(-1)", x.bright(-1, true), Check.BEYOND);
    }

    private static void dark() {
        SlantSheets x = Check.lit(1000, 4);
        x.sheet(Check.TURNER, 3, 0);
        x.lay(1, 0);
        c.due("dark", x.dark(0, false), 10);
        c.due("dark, front", x.dark(1, false), 1);
        c.due("dark, behind", x.dark(1, true), 7);
        x.lamp(0, 1);
        x.lamp(1, 0);
        c.due("dark of 1", x.dark(0, false), 1);
        x.lamp(1, -1);
        c.due("dark of mixed", x.dark(1, true), 0);
        c.due("dark(4)", x.dark(4, false), Check.BEYOND);
        c.due("dark(-1)", x.dark(-1, true), Check.BEYOND);
    }

    private static void alike() {
        SlantSheets x = Check.lit(1000, 0);
        x.sheet(Check.TURNER, 6, 0);
        x.lay(1, 0);
        c.due("alike to itself", x.alike(1, 1, 0), 4095);
        c.due("alike, haze 0", x.alike(0, 1, 0), 1 << 3 | 1 << 9);
        int near = 1 << 2 | 1 << 3 | 1 << 4 | 1 << 8 | 1 << 9 | 1 << 10;
        c.due("alike, haze 499", x.alike(0, 1, 499), 1 << 3 | 1 << 9);
        c.due("alike, haze 500", x.alike(0, 1, 500), near);
        c.due("alike, haze 1000", x.alike(0, 1, 1000), 4095);
        x.change(0, 1, 2);
        c.due("alike is from the front", x.alike(0, 1, 0), 1 << 1 | 1 << 7);
        c.due("alike(4, ..)", x.alike(4, 0, 0), Check.BEYOND);
        c.due("alike(-1, ..)", x.alike(-1, 0, 0), Check.BEYOND);
        c.due("alike(0, 4, ..)", x.alike(0, 4, 0), Check.BEYOND);
        c.due("alike(0, -1, ..)", x.alike(0, -1, 0), Check.BEYOND);
        c.due("alike haze 1001", x.alike(0, 0, 1001), Check.BEYOND);
        c.due("alike haze -1", x.alike(0, 0, -1), Check.BEYOND);
    }

    private static void sky() {
        SlantSheets x = new SlantSheets();
        for (int hour = 0; hour < 24; hour++) {
            boolean day = hour >= 6 && hour <= 17;
            c.due("sky(" + hour + ", 0)", x.sky(hour, 0), day ? 1000 : 100);
            c.due("sky(" + hour + ", 1)", x.sky(hour, 1), day ? (hour + 9) % 12 : -1);
        }
        c.due("sky(24, 0)", x.sky(24, 0), Check.BEYOND);
        c.due("sky(-1, 0)", x.sky(-1, 0), Check.BEYOND);
        c.due("sky(0, 2)", x.sky(0, 2), Check.BEYOND);
        c.due("sky(0, -1)", x.sky(0, -1), Check.BEYOND);
    }

    private static void hours() {
        SlantSheets x = Check.lit(3, 3);
        int night = 0xffffff & ~(0xfff << 6);
        c.due("hours of 933", x.hours(0, 0, 933), 1 << 14 | 1 << 16);
        c.due("hours of 1000", x.hours(0, 0, 1000), 1 << 15);
        c.due("hours of 0", x.hours(0, 0, 0), 1 << 9);
        c.due("hours of 50", x.hours(0, 0, 50), night);
        c.due("hours of 51", x.hours(0, 0, 51), 0);
        x.sheet(Check.TURNER, 1, 0);
        x.lay(1, 0);
        c.due("hours, from the front", x.hours(1, 0, 1000), 1 << 14);
        c.due("hours(4, ..)", x.hours(4, 0, 0), Check.BEYOND);
        c.due("hours(-1, ..)", x.hours(-1, 0, 0), Check.BEYOND);
        c.due("hours tilt 12", x.hours(0, 12, 0), Check.BEYOND);
        c.due("hours tilt -1", x.hours(0, -1, 0), Check.BEYOND);
        c.due("hours v 1001", x.hours(0, 0, 1001), Check.BEYOND);
        c.due("hours v -1", x.hours(0, 0, -1), Check.BEYOND);
        c.due("the lamp stays", x.through(0, false, 0), 3);
    }
}
