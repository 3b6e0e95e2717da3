/** Boundary cases of promises 29 to 34. */
final class SignsBounds {
    private static final int BEYOND = Check.BEYOND;
    private static final int NONE = Check.NONE;
    private static final int STATE = Check.STATE;
    private static final int HORN = 5;
    private static final int STRAIN = 6;

    private SignsBounds() {
    }

    /** Alone, at tilt 0, each lets 100 more through than the one before. */
    private static void ten(Run r) {
        r.lamp(1000, 0);
        r.smokes(0, 100, 200, 300, 400, 500, 600, 700, 800, 900);
    }

    private static int next(int z) {
        return (int) (z * 1103515245L + 12345L);
    }

    private static int drawnFrom(int z, int end) {
        return (int) (((z & 0xffffffffL) >> 8) % end);
    }

    // ---- 29: pairs

    static void p29_pairs__BEYOND_tilt_0_to_11(Run r) {
        r.sheets(2);
        r.bounds("pairs(#, 0)", 0, 11);
    }

    static void p29_pairs__BEYOND_haze_0_to_1000(Run r) {
        r.sheets(2);
        r.bounds("pairs(0, #)", 0, 1000);
    }

    static void p29_pairs__no_SHEETS_one_and_two(Run r) {
        r.reads("pairs(0, 0)", 0);
        r.lamp(1000, 0);
        r.smokes(0);
        r.reads("pairs(0, 0)", 0);
        r.smokes(1);
        r.reads("pairs(0, 0)", 1);
        r.reads("pairs(6, 0)", 0);
    }

    static void p29_pairs__of_ten_SHEETS(Run r) {
        ten(r);
        int[][] due = {{0, 45}, {99, 45}, {100, 36}, {199, 36}, {200, 28}, {899, 1}, {900, 0}};
        for (int[] d : due) {
            r.reads("pairs(0, " + d[0] + ")", d[1]);
        }
    }

    static void p29_pairs__differs_by_more_than_haze(Run r) {
        r.lamp(1000, 11);
        r.smokes(0, 1000);
        r.reads("pairs(11, 999)", 1);
        r.reads("pairs(11, 1000)", 0);
        r.reads("pairs(0, 932)", 1);
        r.reads("pairs(0, 933)", 0);
        r.does("change(0, 2, 1000)");
        r.reads("pairs(11, 0)", 0);
        r.does("change(1, 2, 999)");
        r.reads("pairs(11, 0)", 1);
        r.reads("pairs(11, 1)", 0);
    }

    static void p29_pairs__each_alone_from_the_front(Run r) {
        r.does("sheet(2, 1, 0)", "sheet(0, 11, 0)", "lamp(1, 0)");
        r.lays(0, 0, 1);
        r.reads("pairs(1, 66)", 1);
        r.reads("pairs(1, 67)", 0);
    }

    // ---- 30: signs

    static void p30_signs__BEYOND_tilt_0_to_11(Run r) {
        r.sheets(2);
        r.bounds("signs(#, 0)", 0, 11);
    }

    static void p30_signs__BEYOND_haze_0_to_1000(Run r) {
        r.sheets(2);
        r.bounds("signs(0, #)", 0, 1000);
    }

    static void p30_signs__no_SHEETS_and_one(Run r) {
        r.reads("signs(0, 0)", 0);
        r.sheets(1);
        r.reads("signs(0, 0)", 1);
        r.reads("signs(0, 1000)", 1);
    }

    static void p30_signs__all_ten(Run r) {
        ten(r);
        r.reads("signs(0, 99)", 1023);
        r.reads("signs(6, 0)", 1);
    }

    static void p30_signs__differs_by_more_than_haze(Run r) {
        ten(r);
        r.reads("signs(0, 100)", 341);
        r.reads("signs(0, 899)", 1 | 1 << 9);
        r.reads("signs(0, 900)", 1);
    }

    static void p30_signs__of_several_the_least(Run r) {
        r.lamp(1000, 0);
        r.smokes(500, 500, 100, 100, 300);
        r.reads("signs(0, 0)", 1 | 1 << 2 | 1 << 4);
        r.reads("signs(0, 200)", 1 | 1 << 2);
        r.reads("signs(0, 400)", 1);
    }

    static void p30_signs__the_greatest_set_though_the_first_SHEET_is_not_in_it(Run r) {
        r.lamp(1000, 0);
        r.smokes(500, 450, 550);
        r.reads("signs(0, 60)", 1 << 1 | 1 << 2);
    }

    // ---- 31: eyes

    static void p31_eyes__BEYOND_haze_0_to_1000(Run r) {
        r.bounds("eyes(#)", 0, 1000);
    }

    static void p31_eyes__no_SHEETS_and_one_need_none(Run r) {
        r.reads("eyes(0)", 0);
        r.sheets(1);
        r.reads("eyes(1000)", 0);
    }

    static void p31_eyes__NONE_two_that_are_alike(Run r) {
        r.sheets(2);
        r.refused("eyes(0)", NONE);
        r.refused("eyes(1000)", NONE);
    }

    static void p31_eyes__BEYOND_ahead_of_NONE(Run r) {
        r.sheets(2);
        r.refused("eyes(1001)", BEYOND);
        r.refused("eyes(-1)", BEYOND);
    }

    /** Of 500 at 1 and at 11 the tilts 1, 2, 3 see 125, 216 and 250 more of the one. */
    static void p31_eyes__differs_by_more_than_haze(Run r) {
        r.does("sheet(1, 1, 0)", "sheet(1, 11, 0)");
        r.reads("eyes(0)", 1 << 1);
        r.reads("eyes(124)", 1 << 1);
        r.reads("eyes(125)", 1 << 2);
        r.reads("eyes(215)", 1 << 2);
        r.reads("eyes(216)", 1 << 3);
        r.reads("eyes(249)", 1 << 3);
        r.refused("eyes(250)", NONE);
    }

    static void p31_eyes__NONE_where_only_the_last_two_are_alike(Run r) {
        ten(r);
        r.reads("eyes(0)", 1);
        r.does("change(9, 2, 800)");
        r.refused("eyes(0)", NONE);
    }

    /** A share of 1 is seen at its own slant alone. */
    static void p31_eyes__TILT_11_alone(Run r) {
        r.does("lamp(0, 2)", "sheet(1, 11, 0)", "sheet(5, 0, 0)");
        r.reads("eyes(0)", 1 << 11);
        r.refused("eyes(1)", NONE);
    }

    static void p31_eyes__of_several_the_least(Run r) {
        r.does("lamp(0, 2)", "sheet(1, 9, 0)", "sheet(1, 4, 0)");
        r.reads("eyes(0)", 1 << 4);
    }

    /** Tilt 4 alone tells filters at 4, 10 and 7 apart; so do 1 and 2 together, a lesser set of more tilts. */
    static void p31_eyes__fewer_TILTS_ahead_of_a_lesser_set(Run r) {
        r.does("sheet(1, 4, 0)", "sheet(1, 10, 0)", "sheet(1, 7, 0)");
        r.reads("eyes(200)", 1 << 4);
    }

    static void p31_eyes__as_few_as_can_be_of_ten_SHEETS(Run r) {
        r.does("lamp(0, 2)", "sheet(5, 0, 0)");
        for (int turn = 3; turn < 12; turn++) {
            r.does("sheet(1, " + turn + ", 0)");
        }
        r.reads("eyes(0)", 0xff8);
        r.does("change(0, 0, 1)");
        r.reads("eyes(0)", 0x7f9);
    }

    // ---- 32: years

    static void p32_years__BEYOND_n_1_to_100(Run r) {
        r.does("sheet(5, 0, 500)", "sheet(6, 0, 500)");
        r.bounds("years(#)", 1, 100);
    }

    static void p32_years__PASS_is_0_at_least(Run r) {
        for (int pass : new int[] {1000, 101, 100, 99, 1, 0}) {
            r.does("sheet(5, 0, " + pass + ")");
        }
        r.due("years(100)", 6);
        int[] due = {900, 1, 0, 0, 0, 0};
        for (int sheet = 0; sheet < 6; sheet++) {
            r.sheetIs(sheet, HORN, 0, due[sheet]);
        }
        r.due("years(1)", 6);
        r.sheetIs(0, HORN, 0, 899);
        r.sheetIs(1, HORN, 0, 0);
        r.sheetIs(5, HORN, 0, 0);
    }

    static void p32_years__no_HORNS(Run r) {
        r.reads("years(100)", 0);
        for (int kind = 0; kind < 5; kind++) {
            r.does("sheet(" + kind + ", 5, 500)");
        }
        r.reads("years(100)", 0);
    }

    static void p32_years__ten_HORNS(Run r) {
        r.times(10, "sheet(5, 11, 100)");
        r.due("years(99)", 10);
        r.sheetIs(9, HORN, 11, 1);
        r.due("count(5)", 1);
    }

    /** The first draw is 4310654, its rest by 3 is 2. */
    static void p32_years__TURN_of_a_STRAIN_goes_round(Run r) {
        for (int turn = 9; turn < 12; turn++) {
            Run one = r.again();
            one.does("sheet(6, " + turn + ", 7)");
            one.due("years(1)", 0);
            one.sheetIs(0, STRAIN, (turn + 2) % 12, 7);
        }
    }

    static void p32_years__one_draw_for_each_STRAIN_by_numbers(Run r) {
        r.does("sheet(6, 0, 0)", "sheet(5, 0, 1000)");
        r.times(8, "sheet(6, 11, 0)");
        r.due("years(100)", 1);
        int z = 1;
        for (int sheet : new int[] {0, 2, 3, 4, 5, 6, 7, 8, 9}) {
            z = next(z);
            r.sheetIs(sheet, STRAIN, ((sheet == 0 ? 0 : 11) + drawnFrom(z, 3)) % 12, 0);
        }
        r.due("count(5)", z);
    }

    static void p32_years__a_draw_of_a_z_below_0(Run r) {
        r.does("sheet(6, 0, 0)", "seed(-1)");
        r.due("years(1)", 0);
        r.due("count(5)", -1103502900);
        r.sheetIs(0, STRAIN, 12466657 % 3, 0);
    }

    static void p32_years__LOAD_stays(Run r) {
        r.does("sheet(6, 0, 0)", "load(11)");
        r.due("years(1)", 0);
        r.due("count(3)", 11);
    }

    // ---- 33: drawn

    static void p33_drawn__BEYOND_STACKS_0_to_3(Run r) {
        r.sheets(1);
        r.bounds("drawn(#, 1)", 0, 3);
    }

    static void p33_drawn__BEYOND_n_1_to_6(Run r) {
        r.sheets(1);
        r.bounds("drawn(0, #)", 1, 6);
    }

    static void p33_drawn__STATE_there_are_no_SHEETS(Run r) {
        r.refused("drawn(0, 1)", STATE);
        r.refused("drawn(3, 6)", STATE);
        r.sheets(1);
        r.due("drawn(0, 1)", 1);
    }

    static void p33_drawn__BEYOND_ahead_of_STATE(Run r) {
        r.refused("drawn(4, 1)", BEYOND);
        r.refused("drawn(0, 0)", BEYOND);
        r.refused("drawn(0, 7)", BEYOND);
    }

    static void p33_drawn__one_SHEET_is_drawn_always(Run r) {
        r.sheets(1);
        r.due("drawn(0, 6)", 6);
        r.stackIs(0, 0, 0, 0, 0, 0, 0);
    }

    static void p33_drawn__the_rest_by_how_many_SHEETS_there_are(Run r) {
        r.sheets(9);
        int z = 1;
        r.due("drawn(3, 6)", 6);
        for (int i = 0; i < 6; i++) {
            z = next(z);
            r.due("at(3, " + i + ")", drawnFrom(z, 9));
        }
        r.sheets(1);
        r.due("drawn(0, 6)", 6);
        for (int i = 0; i < 6; i++) {
            z = next(z);
            r.due("at(0, " + i + ")", drawnFrom(z, 10));
        }
        r.due("count(5)", z);
    }

    static void p33_drawn__a_draw_of_a_z_below_0(Run r) {
        r.sheets(10);
        r.does("seed(-1)");
        r.due("drawn(0, 1)", 1);
        r.due("at(0, 0)", 7);
    }

    static void p33_drawn__as_long_as_there_is_room(Run r) {
        r.sheets(2);
        r.lays(0, 1, 1, 1, 1);
        r.due("drawn(0, 2)", 6);
        r.does("off(0)", "off(0)");
        r.stackIs(0, 1, 1, 1, 1);
        r.due("drawn(0, 3)", 6);
        r.stackIs(0, 1, 1, 1, 1, drawnFrom(next(next(next(1))), 2), drawnFrom(next(next(next(next(1)))), 2));
    }

    /** No draw is made for a sheet that has no room: the words tell draws of sheets that are laid. */
    static void p33_drawn__no_room_at_all(Run r) {
        r.sheets(2);
        r.lays(0, 1, 1, 1, 1, 1, 1);
        r.reads("drawn(0, 1)", 6);
        r.reads("drawn(0, 6)", 6);
    }

    static void p33_drawn__room_for_one_is_one_draw(Run r) {
        r.sheets(2);
        r.lays(0, 1, 1, 1, 1, 1);
        r.due("drawn(0, 6)", 6);
        r.due("count(5)", next(1));
    }

    // ---- 34: seed

    static void p34_seed__any_int_and_what_it_was(Run r) {
        r.due("seed(-2147483648)", 1);
        r.due("seed(2147483647)", Integer.MIN_VALUE);
        r.due("seed(0)", Integer.MAX_VALUE);
        r.due("seed(-1)", 0);
        r.due("seed(-1)", -1);
        r.due("count(5)", -1);
    }

    static void p34_seed__numbers_of_findings_are_none(Run r) {
        r.does("seed(-1000001)");
        r.due("seed(-1000007)", -1000001);
        r.due("seed(1)", -1000007);
        r.due("status(-1)", 0);
    }
}
