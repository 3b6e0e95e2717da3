/** Promises 29 to 34: signs, years, draws. */
public final class SignsTest {
    private static final Check c = new Check();

    public static void main(String[] args) {
        pairs();
        signs();
        eyes();
        eyesOfTen();
        years();
        drawn();
        seed();
        c.end();
    }

    private static SlantSheets smokes(int... passes) {
        SlantSheets x = Check.lit(1000, 0);
        for (int pass : passes) {
            x.sheet(Check.SMOKE, 0, pass);
        }
        return x;
    }

    private static void pairs() {
        SlantSheets x = smokes(1000, 900, 800, 800);
        c.due("pairs, haze 0", x.pairs(0, 0), 5);
        c.due("pairs, haze 99", x.pairs(0, 99), 5);
        c.due("pairs, haze 100", x.pairs(0, 100), 2);
        c.due("pairs, haze 200", x.pairs(0, 200), 0);
        c.due("pairs, haze 1000", x.pairs(0, 1000), 0);
        c.due("pairs at 6", x.pairs(6, 0), 0);
        c.due("pairs, no sheets", new SlantSheets().pairs(0, 0), 0);
        c.due("pairs tilt 12", x.pairs(12, 0), Check.BEYOND);
        c.due("pairs tilt -1", x.pairs(-1, 0), Check.BEYOND);
        c.due("pairs haze 1001", x.pairs(0, 1001), Check.BEYOND);
        c.due("pairs haze -1", x.pairs(0, -1), Check.BEYOND);
        SlantSheets y = Check.lit(1000, 0);
        y.sheet(Check.TURNER, 2, 0);
        y.sheet(Check.SHEET, 0, 0);
        c.due("pairs from the front", y.pairs(2, 250), 0);
        c.due("pairs from the front", y.pairs(2, 249), 1);
        c.due("pairs from the front", y.pairs(1, 0), 0);
    }

    private static void signs() {
        SlantSheets x = smokes(1000, 900, 800, 800);
        c.due("signs, haze 0", x.signs(0, 0), 7);
        c.due("signs, haze 99", x.signs(0, 99), 7);
        c.due("signs, haze 100", x.signs(0, 100), 5);
        c.due("signs, haze 200", x.signs(0, 200), 1);
        c.due("signs at 6", x.signs(6, 0), 1);
        c.due("signs, no sheets", new SlantSheets().signs(0, 0), 0);
        c.due("signs tilt 12", x.signs(12, 0), Check.BEYOND);
        c.due("signs tilt -1", x.signs(-1, 0), Check.BEYOND);
        c.due("signs haze 1001", x.signs(0, 1001), Check.BEYOND);
        c.due("signs haze -1", x.signs(0, -1), Check.BEYOND);
        SlantSheets y = smokes(500, 0, 500, 100, 500, 200, 500, 300, 500, 400);
        c.due("signs of ten", y.signs(0, 0), 1 | 1 << 1 | 1 << 3 | 1 << 5 | 1 << 7 | 1 << 9);
        c.due("signs of ten, haze 100", y.signs(0, 100), 1 | 1 << 1 | 1 << 5);
    }

    private static void eyes() {
        SlantSheets x = new SlantSheets();
        c.due("eyes, no sheets", x.eyes(0), 0);
        x.sheet(Check.FILTER, 0, 0);
        c.due("eyes, one sheet", x.eyes(1000), 0);
        x.sheet(Check.FILTER, 6, 0);
        c.due("eyes, haze 499", x.eyes(499), 1);
        c.due("eyes, haze 500", x.eyes(500), Check.NONE);
        x.sheet(Check.FILTER, 3, 0);
        c.due("eyes of three, haze 200", x.eyes(200), 1);
        c.due("eyes of three, haze 250", x.eyes(250), 1 << 1 | 1 << 4);
        c.due("eyes of three, haze 300", x.eyes(300), 1 << 1 | 1 << 4);
        c.due("eyes of three, haze 341", x.eyes(341), 1 << 1 | 1 << 5);
        c.due("eyes of three, haze 342", x.eyes(342), Check.NONE);
        c.due("eyes(-1)", x.eyes(-1), Check.BEYOND);
        c.due("eyes(1001)", x.eyes(1001), Check.BEYOND);
    }

    private static void eyesOfTen() {
        SlantSheets x = smokes(0, 111, 222, 333, 444, 555, 666, 777, 888, 1000);
        c.due("eyes of ten", x.eyes(110), 1);
        c.due("eyes of ten, haze 111", x.eyes(111), Check.NONE);
        x.lamp(1, 4);
        c.due("eyes of ten, slant 4, haze 110", x.eyes(110), 1 << 4);
        c.due("eyes of ten, slant 4, haze 2", x.eyes(2), 1);
        x.change(9, 2, 0);
        c.due("eyes of ten, two alike", x.eyes(0), Check.NONE);
    }

    private static void years() {
        SlantSheets x = new SlantSheets();
        c.due("years(0)", x.years(0), Check.BEYOND);
        c.due("years(101)", x.years(101), Check.BEYOND);
        x.sheet(Check.STRAIN, 11, 500);
        x.sheet(Check.HORN, 3, 100);
        x.sheet(Check.SMOKE, 3, 100);
        x.sheet(Check.FILTER, 3, 100);
        x.sheet(Check.HORN, 3, 99);
        x.sheet(Check.STRAIN, 0, 500);
        x.sheet(Check.TURNER, 3, 100);
        x.sheet(Check.HORN, 3, 1000);
        c.due("years(100)", x.years(100), 3);
        int[] passes = {500, 0, 100, 100, 0, 500, 100, 900};
        for (int sheet = 0; sheet < 8; sheet++) {
            c.due("pass after years", x.sheetOf(sheet, 2), passes[sheet]);
        }
        int z1 = next(1);
        int z2 = next(z1);
        c.due("first strain", x.sheetOf(0, 1), (11 + (z1 >>> 8) % 3) % 12);
        c.due("first strain", x.sheetOf(0, 1), 1);
        c.due("second strain", x.sheetOf(5, 1), (z2 >>> 8) % 3);
        c.due("other turns stay", x.sheetOf(6, 1), 3);
        c.due("two draws", x.seed(-1), z2);
        c.due("years(1)", x.years(1), 3);
        c.due("z below 0 is shifted as bits", x.sheetOf(0, 1), 1 + 12466657 % 3);
        c.due("a year", x.sheetOf(7, 2), 899);
    }

    private static int next(int z) {
        return (int) ((z * 1103515245L + 12345L) & 0xffffffffL);
    }

    private static void drawn() {
        SlantSheets x = new SlantSheets();
        c.due("drawn, no sheets", x.drawn(0, 1), Check.STATE);
        c.due("drawn, no sheets, wrong", x.drawn(0, 0), Check.BEYOND);
        c.due("drawn, no sheets, wrong", x.drawn(4, 1), Check.BEYOND);
        for (int i = 0; i < 10; i++) {
            x.sheet(0, 0, 0);
        }
        c.due("drawn(-1, 1)", x.drawn(-1, 1), Check.BEYOND);
        c.due("drawn(4, 1)", x.drawn(4, 1), Check.BEYOND);
        c.due("drawn(0, 0)", x.drawn(0, 0), Check.BEYOND);
        c.due("drawn(0, 7)", x.drawn(0, 7), Check.BEYOND);
        c.due("no draw yet", x.count(5), 1);
        c.due("drawn(0, 1)", x.drawn(0, 1), 1);
        c.due("4310654 by 10", x.at(0, 0), 4);
        c.due("one draw", x.count(5), 1103527590);
        c.due("drawn(0, 4)", x.drawn(0, 4), 5);
        int z = 1103527590;
        for (int i = 1; i < 5; i++) {
            z = next(z);
            c.due("drawn " + i, x.at(0, i), (z >>> 8) % 10);
        }
        c.due("drawn(0, 6): room for one", x.drawn(0, 6), 6);
        z = next(z);
        c.due("the last", x.at(0, 5), (z >>> 8) % 10);
        c.due("no draw without room", x.count(5), z);
        c.due("drawn(0, 1): no room", x.drawn(0, 1), 6);
        c.due("no draw without room", x.count(5), z);
        c.due("drawn(3, 6)", x.drawn(3, 6), 6);
    }

    private static void seed() {
        SlantSheets x = new SlantSheets();
        c.due("seed", x.seed(Integer.MIN_VALUE), 1);
        c.due("seed", x.seed(-1000001), Integer.MIN_VALUE);
        c.due("seed", x.seed(Integer.MAX_VALUE), -1000001);
        c.due("count(5)", x.count(5), Integer.MAX_VALUE);
        x.seed(-1000004);
        c.due("count(5)", x.count(5), -1000004);
        c.due("no findings", x.status(-1), 0);
    }
}
