/** Boundary cases that the document's Terms name. */
final class TermsBounds {
    private static final int[] COS_BY_REST = {1000, 933, 750, 500, 250, 67, 0, 67, 250, 500, 750, 933};

    private TermsBounds() {
    }

    // ---- findings

    static void terms_findings__LOW_is_minus_1000001_and_each_next_one_less(Run r) {
        r.does("sheet(1, 0, 0)", "hold(0, 0)");
        r.times(4, "look(0, 0)");
        r.refused("load(12)", -1000001);
        r.refused("look(0, 0)", -1000002);
        r.refused("as(0, 2)", -1000003);
        r.refused("off(0)", -1000004);
        r.refused("write(0, 0, 0)", -1000006);
        r.refused("row(0, 8, -1)", -1000007);
    }

    static void terms_findings__STATE_is_LOW_less_4(Run r) {
        r.refused("drawn(0, 1)", -1000005);
    }

    static void terms_findings__z_may_be_any_int_that_is_no_finding(Run r) {
        int was = 1;
        for (int z : new int[] {-1000000, -1000001, -1000004, -1000007, -1000008, Integer.MIN_VALUE, Integer.MAX_VALUE, -1, 0}) {
            r.due("seed(" + z + ")", was);
            r.due("count(5)", z);
            was = z;
        }
        r.due("status(-1)", 0);
    }

    static void terms_findings__the_answer_of_a_FAULT_is_no_finding(Run r) {
        r.fault("", 0);
        r.fault("load 5" + " ".repeat(113) + "?", 119);
        r.due("status(-1)", 0);
    }

    // ---- quotients, sets

    static void terms_quotients__are_cut_half_of_MIXED(Run r) {
        int[][] due = {{0, 0}, {1, 0}, {2, 1}, {3, 1}, {999, 499}, {1000, 500}};
        for (int[] d : due) {
            r.does("lamp(0, " + d[0] + ")");
            r.due("seen(0, false, 5)", d[1]);
        }
    }

    static void terms_quotients__are_cut_PART_by_COS(Run r) {
        r.lamp(1, 0);
        r.due("seen(0, false, 0)", 1);
        r.due("seen(0, false, 1)", 0);
        r.does("lamp(0, 999)");
        r.due("seen(0, false, 1)", 932);
        r.does("lamp(0, 15)");
        r.due("seen(0, false, 5)", 1);
        r.does("lamp(0, 14)");
        r.due("seen(0, false, 5)", 0);
    }

    static void terms_quotients__are_cut_PART_by_PASS(Run r) {
        r.smokes(999);
        r.lays(0, 0);
        r.does("lamp(0, 999)");
        r.due("through(0, false, 0)", 998);
        r.does("lamp(0, 1)");
        r.due("through(0, false, 0)", 0);
        r.does("change(0, 2, 1000)");
        r.due("through(0, false, 0)", 1);
    }

    static void terms_quotients__are_cut_at_each_SHEET(Run r) {
        r.smokes(500, 500);
        r.lays(0, 0, 1);
        r.does("lamp(0, 7)");
        r.due("through(0, false, 0)", 1);
    }

    static void terms_sets__are_told_as_bits(Run r) {
        r.smokes(0);
        r.lays(1, 0);
        r.lamp(1000, 5);
        r.due("alike(0, 1, 0)", 1 << 11);
        r.due("hours(0, 8, 0)", 1 << 17);
        r.does("lamp(1, 6)");
        r.due("alike(0, 1, 0)", 1);
        r.due("hours(0, 0, 1000)", 1 << 15);
    }

    // ---- light

    static void terms_light__COS_of_a_difference_0_to_6_and_12_less_it(Run r) {
        r.does("lamp(1, 0)");
        for (int tilt = 0; tilt < 12; tilt++) {
            r.due("seen(0, false, " + tilt + ")", COS_BY_REST[tilt]);
        }
    }

    static void terms_light__COS_of_each_two_SLANTS(Run r) {
        for (int slant = 0; slant < 12; slant++) {
            r.does("lamp(1, " + slant + ")");
            for (int tilt = 0; tilt < 12; tilt++) {
                r.due("seen(0, false, " + tilt + ")", COS_BY_REST[(tilt + 12 - slant) % 12]);
            }
        }
    }

    static void terms_light__half_of_MIXED_at_each_TILT(Run r) {
        for (int tilt = 0; tilt < 12; tilt++) {
            r.due("seen(0, false, " + tilt + ")", 500);
        }
    }

    // ---- what comes through one

    /** A light through one sheet (kind, turn, pass), with a load, on an object of its own. */
    private static void comes(Run r, String sheet, int load, boolean behind, int[] light, int... due) {
        Run one = r.again();
        one.does("sheet(" + sheet.replace(" ", ", ") + ")", "lay(1, 0)", "load(" + load + ")");
        one.lamp(light[0], light[1]);
        one.due("through(1, " + behind + ", 0)", due[0]);
        one.due("through(1, " + behind + ", 1)", due[1]);
    }

    private static int[] light(int share, int slant) {
        return new int[] {share, slant};
    }

    static void terms_kinds__SHEET_the_same(Run r) {
        comes(r, "0 11 0", 11, false, light(1000, 11), 1000, 11);
        comes(r, "0 11 0", 11, true, light(1, -1), 1, -1);
    }

    static void terms_kinds__FILTER_of_MIXED_half(Run r) {
        comes(r, "1 0 0", 0, false, light(1000, -1), 500, 0);
        comes(r, "1 11 0", 0, false, light(999, -1), 499, 11);
        comes(r, "1 11 0", 0, false, light(1, -1), 0, 11);
    }

    static void terms_kinds__FILTER_the_PART_by_COS_round(Run r) {
        comes(r, "1 11 0", 0, false, light(1000, 0), 933, 11);
        comes(r, "1 0 0", 0, false, light(1000, 11), 933, 0);
        comes(r, "1 0 0", 0, false, light(1000, 6), 0, 0);
        comes(r, "1 0 0", 0, false, light(1000, 7), 67, 0);
        comes(r, "1 0 0", 0, false, light(1000, 0), 1000, 0);
    }

    static void terms_kinds__FILTER_does_not_ask_for_LOAD_or_PASS(Run r) {
        comes(r, "1 3 0", 11, false, light(1000, 3), 1000, 3);
    }

    static void terms_kinds__TURNER_goes_round(Run r) {
        comes(r, "2 0 0", 0, false, light(1000, 0), 1000, 0);
        comes(r, "2 1 0", 0, false, light(1000, 10), 1000, 11);
        comes(r, "2 1 0", 0, false, light(1000, 11), 1000, 0);
        comes(r, "2 11 0", 11, false, light(1000, 11), 1000, 10);
    }

    static void terms_kinds__TURNER_MIXED_stays_so(Run r) {
        comes(r, "2 11 0", 11, false, light(999, -1), 999, -1);
        comes(r, "2 1 0", 0, true, light(999, -1), 999, -1);
    }

    static void terms_kinds__HALF_goes_round(Run r) {
        comes(r, "3 0 0", 0, false, light(1000, 0), 1000, 0);
        comes(r, "3 0 0", 0, false, light(1000, 1), 1000, 11);
        comes(r, "3 0 0", 0, false, light(1000, 11), 1000, 1);
        comes(r, "3 6 0", 0, false, light(1000, 0), 1000, 0);
        comes(r, "3 11 0", 11, false, light(1000, 0), 1000, 10);
        comes(r, "3 11 0", 0, false, light(1000, 11), 1000, 11);
    }

    static void terms_kinds__HALF_MIXED_stays_so(Run r) {
        comes(r, "3 5 0", 0, false, light(7, -1), 7, -1);
        comes(r, "3 5 0", 0, true, light(7, -1), 7, -1);
    }

    static void terms_kinds__STRAIN_TURN_and_LOAD_go_round(Run r) {
        comes(r, "6 11 0", 0, false, light(1000, 0), 1000, 11);
        comes(r, "6 11 0", 1, false, light(1000, 0), 1000, 0);
        comes(r, "6 0 0", 11, false, light(1000, 1), 1000, 0);
        comes(r, "6 11 0", 11, false, light(1000, 11), 1000, 9);
        comes(r, "6 6 0", 6, false, light(1000, 4), 1000, 4);
    }

    static void terms_kinds__STRAIN_MIXED_stays_so(Run r) {
        comes(r, "6 11 0", 11, false, light(7, -1), 7, -1);
        comes(r, "6 11 0", 11, true, light(7, -1), 7, -1);
    }

    static void terms_kinds__SMOKE_PASS_0_to_1000(Run r) {
        comes(r, "4 11 0", 0, false, light(1000, 5), 0, 5);
        comes(r, "4 11 1", 0, false, light(1000, 5), 1, 5);
        comes(r, "4 11 999", 0, false, light(1000, 5), 999, 5);
        comes(r, "4 11 1000", 0, false, light(1000, -1), 1000, -1);
    }

    static void terms_kinds__HORN_as_a_FILTER_then_the_PART(Run r) {
        comes(r, "5 11 0", 0, false, light(1000, 11), 0, 11);
        comes(r, "5 11 1000", 0, false, light(1000, 0), 933, 11);
        comes(r, "5 0 999", 11, false, light(1000, -1), 499, 0);
        comes(r, "5 1 1000", 0, true, light(1000, 11), 1000, 11);
        comes(r, "5 0 500", 0, false, light(15, 5), 0, 0);
    }

    // ---- from behind

    static void terms_behind__TURN_0_stays_0(Run r) {
        comes(r, "1 0 0", 0, true, light(1000, 0), 1000, 0);
        comes(r, "2 0 0", 0, true, light(1000, 11), 1000, 11);
        comes(r, "3 0 0", 0, true, light(1000, 11), 1000, 1);
        comes(r, "5 0 1000", 0, true, light(1000, 0), 1000, 0);
    }

    static void terms_behind__TURN_1_and_11(Run r) {
        comes(r, "1 1 0", 0, true, light(1000, 0), 933, 11);
        comes(r, "1 11 0", 0, true, light(1000, 1), 1000, 1);
        comes(r, "2 1 0", 0, true, light(1000, 0), 1000, 11);
        comes(r, "2 11 0", 0, true, light(1000, 11), 1000, 0);
        comes(r, "3 1 0", 0, true, light(1000, 11), 1000, 11);
        comes(r, "3 11 0", 0, true, light(1000, 0), 1000, 2);
    }

    static void terms_behind__TURN_6_is_the_same(Run r) {
        comes(r, "1 6 0", 0, true, light(1000, 6), 1000, 6);
        comes(r, "2 6 0", 0, true, light(1000, 6), 1000, 0);
    }

    static void terms_behind__STRAIN_12_less_TURN_and_LOAD_together(Run r) {
        comes(r, "6 0 0", 0, true, light(1000, 5), 1000, 5);
        comes(r, "6 1 0", 11, true, light(1000, 5), 1000, 5);
        comes(r, "6 0 0", 1, true, light(1000, 0), 1000, 11);
        comes(r, "6 11 0", 0, true, light(1000, 0), 1000, 1);
        comes(r, "6 11 0", 11, true, light(1000, 0), 1000, 2);
    }

    static void terms_behind__LOAD_does_not_turn_other_KINDS(Run r) {
        comes(r, "1 1 0", 5, true, light(1000, 11), 1000, 11);
        comes(r, "2 1 0", 5, true, light(1000, 0), 1000, 11);
        comes(r, "3 1 0", 5, true, light(1000, 0), 1000, 10);
    }

    // ---- stacks, the lamp, load

    static void terms_stacks__a_SHEET_in_several_and_more_than_once(Run r) {
        r.does("sheet(2, 1, 0)", "lamp(1, 0)");
        for (int stack = 0; stack < 4; stack++) {
            for (int height = 1; height <= 6; height++) {
                r.due("lay(" + stack + ", 0)", height);
            }
            r.due("through(" + stack + ", false, 1)", 6);
        }
        r.does("change(0, 1, 2)");
        for (int stack = 0; stack < 4; stack++) {
            r.due("through(" + stack + ", false, 1)", 0);
        }
    }

    static void terms_stacks__from_the_first_to_the_last_of_six(Run r) {
        r.does("sheet(1, 0, 0)", "sheet(2, 1, 0)", "sheet(1, 3, 0)");
        r.lays(0, 0, 1, 1, 1, 1, 2);
        r.due("through(0, false, 0)", 466);
        r.due("through(0, false, 1)", 3);
    }

    static void terms_stacks__from_BEHIND_from_the_last_to_the_first_of_six(Run r) {
        r.does("sheet(1, 0, 0)", "sheet(2, 1, 0)", "sheet(1, 3, 0)");
        r.lays(0, 0, 1, 1, 1, 1, 2);
        r.due("through(0, true, 0)", 33);
        r.due("through(0, true, 1)", 0);
    }

    static void terms_lamp__is_1000_and_MIXED_at_first(Run r) {
        r.due("lamp(0, 1000)", 1000);
        r.due("lamp(1, -1)", -1);
    }

    static void terms_load__is_0_at_first_and_one_for_all(Run r) {
        r.due("load(0)", 0);
        r.does("sheet(6, 0, 0)", "sheet(6, 1, 0)", "lamp(1, 0)");
        r.lays(0, 0, 1);
        r.due("through(0, false, 1)", 1);
        r.does("load(11)");
        r.due("through(0, false, 1)", 11);
    }

    // ---- draws

    static void terms_draws__z_is_1_at_first(Run r) {
        r.due("count(5)", 1);
        r.sheets(10);
        r.due("drawn(0, 1)", 1);
        r.due("count(5)", 1103527590);
        r.due("at(0, 0)", 4310654 % 10);
    }

    /** The seeds, the z that is due, and what it gives, were reckoned with unbounded numbers. */
    static void terms_draws__z_wraps_around_as_an_int(Run r) {
        int[][] due = {{0, 12345, 48}, {-1, -1103502900, 12466657}, {Integer.MAX_VALUE, 1043980748, 4078049},
            {Integer.MIN_VALUE, -2147471303, 8388656}, {2, -2087924461, 8621261}};
        r.sheets(7);
        for (int[] d : due) {
            r.does("seed(" + d[0] + ")");
            r.does("drawn(0, 1)");
            r.due("count(5)", d[1]);
            r.due("off(0)", d[2] % 7);
        }
    }

    // ---- an object's calls

    static void terms_calls__the_512th_is_still_answered(Run r) {
        for (int i = 0; i < 511; i++) {
            r.due("load(12)", Check.BEYOND);
        }
        r.due("status(0)", 511);
    }
}
