/** Boundary cases of promises 19 to 23. */
final class WantedBounds {
    private static final int BEYOND = Check.BEYOND;
    private static final int NONE = Check.NONE;
    private static final int SIZE = Check.SIZE;

    private WantedBounds() {
    }

    // ---- 19: loads

    static void p19_loads__BEYOND_STACKS_0_to_3(Run r) {
        r.bounds("loads(#, 0, 0)", 0, 3);
    }

    static void p19_loads__BEYOND_TILT_0_to_11(Run r) {
        r.bounds("loads(0, #, 0)", 0, 11);
    }

    static void p19_loads__BEYOND_v_0_to_1000(Run r) {
        r.bounds("loads(0, 0, #)", 0, 1000);
    }

    static void p19_loads__all_12_and_none(Run r) {
        r.does("load(7)");
        r.reads("loads(0, 11, 500)", 4095);
        r.reads("loads(0, 11, 499)", 0);
        r.lamp(1000, 0);
        r.reads("loads(0, 0, 1000)", 4095);
        r.reads("loads(0, 6, 0)", 4095);
    }

    static void p19_loads__0_and_11_round(Run r) {
        r.does("sheet(6, 0, 0)", "sheet(6, 11, 0)", "load(5)", "lamp(1, 0)");
        r.lays(0, 0);
        r.lays(1, 1);
        r.reads("loads(0, 0, 1000)", 1);
        r.reads("loads(0, 11, 1000)", 1 << 11);
        r.reads("loads(0, 0, 933)", 1 << 1 | 1 << 11);
        r.reads("loads(1, 0, 1000)", 1 << 1);
        r.reads("loads(1, 11, 1000)", 1);
        r.reads("loads(1, 10, 1000)", 1 << 11);
        r.due("count(3)", 5);
    }

    static void p19_loads__from_the_front(Run r) {
        r.does("sheet(6, 0, 0)", "lamp(1, 0)");
        r.lays(3, 0);
        r.reads("loads(3, 2, 1000)", 1 << 2);
    }

    // ---- 20: nearest

    static void p20_nearest__BEYOND_STACKS_0_to_3(Run r) {
        r.sheets(1);
        r.bounds("nearest(#, 0, 0)", 0, 3);
    }

    static void p20_nearest__BEYOND_TILT_0_to_11(Run r) {
        r.sheets(1);
        r.bounds("nearest(0, #, 0)", 0, 11);
    }

    static void p20_nearest__BEYOND_v_0_to_1000(Run r) {
        r.sheets(1);
        r.bounds("nearest(0, 0, #)", 0, 1000);
    }

    static void p20_nearest__NONE_there_are_no_SHEETS(Run r) {
        r.refused("nearest(0, 0, 500)", NONE);
        r.sheets(1);
        r.reads("nearest(0, 0, 500)", 0);
    }

    static void p20_nearest__BEYOND_ahead_of_NONE(Run r) {
        r.refused("nearest(4, 0, 0)", BEYOND);
        r.refused("nearest(0, 12, 0)", BEYOND);
        r.refused("nearest(0, 0, 1001)", BEYOND);
    }

    static void p20_nearest__the_least_of_several_that_are_as_near(Run r) {
        r.lamp(1000, 0);
        r.smokes(600, 400, 600);
        r.reads("nearest(0, 0, 500)", 0);
        r.reads("nearest(0, 0, 499)", 1);
        r.reads("nearest(0, 0, 501)", 0);
        r.does("change(0, 2, 400)", "change(1, 2, 600)");
        r.reads("nearest(0, 0, 500)", 0);
        r.reads("nearest(0, 0, 501)", 1);
    }

    static void p20_nearest__v_0_and_1000_and_the_tenth_SHEET(Run r) {
        r.lamp(1000, 0);
        r.smokes(1000, 500, 500, 500, 500, 500, 500, 500, 500, 0);
        r.reads("nearest(0, 0, 0)", 9);
        r.reads("nearest(0, 0, 1000)", 0);
    }

    static void p20_nearest__as_far_as_can_be(Run r) {
        r.lamp(1000, 0);
        r.smokes(0);
        r.reads("nearest(0, 0, 1000)", 0);
        r.does("change(0, 2, 1000)");
        r.reads("nearest(0, 0, 0)", 0);
        r.smokes(999);
        r.reads("nearest(0, 0, 0)", 1);
        r.does("change(0, 2, 0)", "change(1, 2, 1)");
        r.reads("nearest(0, 0, 1000)", 1);
    }

    static void p20_nearest__behind_a_STACK_from_the_front(Run r) {
        r.does("sheet(1, 3, 0)", "sheet(1, 6, 0)", "lamp(1, 0)");
        r.lays(0, 0);
        r.reads("nearest(0, 7, 233)", 1);
        r.reads("nearest(0, 7, 125)", 0);
        r.reads("nearest(1, 6, 0)", 1);
    }

    // ---- 21: fewest

    static void p21_fewest__BEYOND_STACKS_0_to_3(Run r) {
        r.bounds("fewest(#, 0, 500)", 0, 3);
    }

    static void p21_fewest__BEYOND_TILT_0_to_11(Run r) {
        r.bounds("fewest(0, #, 500)", 0, 11);
    }

    static void p21_fewest__BEYOND_v_0_to_1000(Run r) {
        r.lamp(1000, 0);
        r.smokes(0);
        r.bounds("fewest(0, 0, #)", 0, 1000);
    }

    static void p21_fewest__0_to_3_each_more_than_once(Run r) {
        r.lamp(1000, 0);
        r.smokes(500);
        r.reads("fewest(0, 0, 1000)", 0);
        r.reads("fewest(0, 0, 500)", 1);
        r.reads("fewest(0, 0, 250)", 2);
        r.reads("fewest(0, 0, 125)", 3);
    }

    static void p21_fewest__NONE_where_4_would_do(Run r) {
        r.lamp(1000, 0);
        r.smokes(500);
        r.refused("fewest(0, 0, 62)", NONE);
        r.refused("fewest(0, 0, 999)", NONE);
    }

    static void p21_fewest__NONE_without_SHEETS_but_0_where_it_is_v(Run r) {
        r.refused("fewest(0, 0, 499)", NONE);
        r.reads("fewest(0, 0, 500)", 0);
    }

    static void p21_fewest__SIZE_it_has_more_than_3(Run r) {
        r.lamp(1000, 0);
        r.smokes(1000, 500);
        r.lays(0, 0, 0, 0);
        r.reads("fewest(0, 0, 125)", 3);
        r.lays(0, 0);
        r.refused("fewest(0, 0, 125)", SIZE);
        r.refused("fewest(0, 0, 1000)", SIZE);
        r.lays(0, 0, 0);
        r.refused("fewest(0, 0, 1000)", SIZE);
    }

    static void p21_fewest__BEYOND_ahead_of_SIZE(Run r) {
        r.sheets(1);
        r.lays(0, 0, 0, 0, 0);
        r.refused("fewest(0, 12, 0)", BEYOND);
        r.refused("fewest(0, 0, 1001)", BEYOND);
    }

    static void p21_fewest__SIZE_ahead_of_NONE(Run r) {
        r.sheets(1);
        r.lays(0, 0, 0, 0, 0);
        r.refused("fewest(0, 0, 499)", SIZE);
    }

    static void p21_fewest__BEYOND_ahead_of_NONE(Run r) {
        r.refused("fewest(0, 0, -1)", BEYOND);
        r.refused("fewest(0, -1, 499)", BEYOND);
    }

    static void p21_fewest__the_tenth_SHEET_three_times(Run r) {
        r.lamp(1000, 0);
        r.sheets(9);
        r.smokes(300);
        r.reads("fewest(0, 0, 300)", 1);
        r.reads("fewest(0, 0, 90)", 2);
        r.reads("fewest(0, 0, 27)", 3);
    }

    static void p21_fewest__unlike_SHEETS_in_either_order(Run r) {
        r.lamp(1000, 0);
        r.does("sheet(1, 6, 0)", "sheet(2, 3, 0)");
        r.reads("fewest(0, 5, 466)", 2);
        r.reads("fewest(0, 10, 466)", 3);
        r.refused("fewest(0, 10, 467)", NONE);
        r.does("change(0, 1, 3)");
        r.reads("fewest(0, 9, 250)", 2);
    }

    // ---- 22: turnFor

    static void p22_turnFor__BEYOND_no_such_SHEET(Run r) {
        r.refused("turnFor(0, 0, 0)", BEYOND);
        r.sheets(1);
        r.bounds("turnFor(#, 0, 0)", 0, 0);
        r.sheets(9);
        r.bounds("turnFor(#, 0, 0)", 0, 9);
    }

    static void p22_turnFor__BEYOND_STACKS_0_to_3(Run r) {
        r.sheets(1);
        r.bounds("turnFor(0, #, 0)", 0, 3);
    }

    static void p22_turnFor__BEYOND_TILT_0_to_11(Run r) {
        r.sheets(1);
        r.bounds("turnFor(0, 0, #)", 0, 11);
    }

    static void p22_turnFor__0_to_11(Run r) {
        r.does("sheet(0, 0, 0)", "sheet(2, 5, 0)", "lamp(1, 0)");
        r.lays(0, 0, 1);
        for (int tilt = 0; tilt < 12; tilt++) {
            r.due("turnFor(1, 0, " + tilt + ")", tilt);
        }
        r.reads("turnFor(1, 0, 11)", 11);
    }

    static void p22_turnFor__the_least_of_several(Run r) {
        r.does("sheet(2, 11, 0)", "sheet(3, 11, 0)", "lamp(1, 0)");
        r.lays(0, 0, 0);
        r.reads("turnFor(0, 0, 2)", 1);
        r.reads("turnFor(0, 0, 0)", 0);
        r.lays(1, 1);
        r.reads("turnFor(1, 1, 10)", 5);
        r.reads("turnFor(1, 1, 11)", 0);
        r.does("lamp(1, -1)");
        r.reads("turnFor(0, 0, 2)", 0);
    }

    static void p22_turnFor__no_TURN_makes_a_difference(Run r) {
        r.does("sheet(4, 7, 500)", "sheet(2, 7, 0)", "lamp(1, 0)");
        r.lays(0, 0);
        r.reads("turnFor(0, 0, 5)", 0);
        r.reads("turnFor(1, 0, 5)", 0);
        r.reads("turnFor(0, 3, 5)", 0);
    }

    static void p22_turnFor__nothing_at_all_is_SEEN(Run r) {
        r.does("sheet(2, 7, 0)", "lamp(0, 0)", "lamp(1, 0)");
        r.lays(0, 0);
        r.reads("turnFor(0, 0, 5)", 0);
    }

    static void p22_turnFor__a_STRAIN_with_its_LOAD_round(Run r) {
        r.does("sheet(6, 5, 0)", "lamp(1, 0)", "load(11)");
        r.lays(0, 0);
        r.reads("turnFor(0, 0, 0)", 1);
        r.reads("turnFor(0, 0, 10)", 11);
        r.reads("turnFor(0, 0, 11)", 0);
    }

    // ---- 23: spare

    static void p23_spare__BEYOND_STACKS_0_to_3(Run r) {
        r.sheets(1);
        r.lays(0, 0);
        r.lays(3, 0);
        r.bounds("spare(#, 0)", 0, 3);
    }

    static void p23_spare__BEYOND_TILT_0_to_11(Run r) {
        r.sheets(1);
        r.lays(0, 0);
        r.bounds("spare(0, #)", 0, 11);
    }

    static void p23_spare__NONE_it_is_empty(Run r) {
        r.sheets(1);
        r.refused("spare(0, 0)", NONE);
        r.lays(0, 0);
        r.reads("spare(0, 0)", 0);
        r.does("off(0)");
        r.refused("spare(0, 0)", NONE);
    }

    static void p23_spare__BEYOND_ahead_of_NONE(Run r) {
        r.refused("spare(0, 12)", BEYOND);
        r.refused("spare(0, -1)", BEYOND);
    }

    static void p23_spare__the_least_place_of_several(Run r) {
        r.smokes(500, 1000);
        r.lays(0, 0, 1, 1, 0);
        r.reads("spare(0, 0)", 1);
        r.lays(1, 0, 0, 0);
        r.reads("spare(1, 0)", 0);
    }

    static void p23_spare__its_place_0_to_5(Run r) {
        r.smokes(500, 900);
        r.lays(0, 0, 0, 0, 0, 0, 1);
        r.reads("spare(0, 0)", 5);
        r.lays(1, 1, 0, 0, 0, 0, 0);
        r.reads("spare(1, 0)", 0);
    }

    static void p23_spare__changes_by_more_as_well_as_by_less(Run r) {
        r.does("sheet(4, 0, 950)", "sheet(2, 1, 0)", "lamp(1, 0)");
        r.lays(0, 0, 1);
        r.reads("spare(0, 1)", 0);
        r.does("change(0, 2, 900)");
        r.reads("spare(0, 1)", 1);
    }

    static void p23_spare__as_far_as_can_be(Run r) {
        r.lamp(1000, 0);
        r.smokes(0);
        r.lays(0, 0);
        r.reads("spare(0, 0)", 0);
    }
}
