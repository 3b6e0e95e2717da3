/** Boundary cases of promises 1 to 11. */
final class SheetsBounds {
    private static final int BEYOND = Check.BEYOND;
    private static final int FULL = Check.FULL;
    private static final int NONE = Check.NONE;

    private SheetsBounds() {
    }

    // ---- 1: a new object

    static void p01_new__no_SHEETS(Run r) {
        r.due("count(0)", 0);
        r.refused("sheetOf(0, 0)", BEYOND);
    }

    static void p01_new__STACKS_are_empty(Run r) {
        for (int stack = 0; stack < 4; stack++) {
            r.stackIs(stack);
            r.refused("at(" + stack + ", 0)", NONE);
        }
        r.due("count(1)", 0);
    }

    static void p01_new__THE_TAPE_is_empty(Run r) {
        r.due("count(4)", 0);
        r.due("wipe()", 0);
        r.due("text()", -1);
    }

    static void p01_new__no_image_is_kept(Run r) {
        r.due("tear()", 0);
        r.refused("undo()", NONE);
    }

    static void p01_new__all_as_at_first(Run r) {
        r.due("count(2)", 0);
        r.due("count(3)", 0);
        r.due("count(5)", 1);
        r.due("count(6)", 0);
        r.lampIs(1000, -1);
        for (int spot = 0; spot < 10; spot++) {
            r.due("as(" + spot + ", 0)", Check.MISSING);
        }
        for (int s = 0; s < 4; s++) {
            r.due("write(" + s + ", 0, 0)", Check.MISSING);
        }
        r.due("status(-1)", 14);
    }

    static void p01_new__no_findings(Run r) {
        for (int which = -1; which < 7; which++) {
            r.due("status(" + which + ")", 0);
        }
    }

    static void p01_new__objects_share_nothing(Run r) {
        r.does("sheet(1, 2, 3)", "load(4)", "lay(0, 0)", "lamp(0, 5)", "look(6, 7)", "seed(8)", "feed(9, 1)", "hold(0, 0)",
            "row(0, 8, 1)", "image()");
        String before = r.state();
        Run other = r.another();
        other.does("sheet(2, 3, 4)", "load(5)", "lay(1, 0)", "lamp(0, 6)", "look(7, 8)", "seed(9)", "wipe()", "hold(1, 0)",
            "row(0, 16, 2)", "image()");
        r.same("calls of another object", before);
    }

    // ---- 2: sheet

    static void p02_sheet__BEYOND_kind_0_to_6(Run r) {
        r.bounds("sheet(#, 0, 0)", 0, 6);
    }

    static void p02_sheet__BEYOND_turn_0_to_11(Run r) {
        r.bounds("sheet(0, #, 0)", 0, 11);
    }

    static void p02_sheet__BEYOND_pass_0_to_1000(Run r) {
        r.bounds("sheet(0, 0, #)", 0, 1000);
    }

    static void p02_sheet__the_least_and_the_greatest_are_kept(Run r) {
        r.due("sheet(0, 0, 0)", 0);
        r.due("sheet(6, 11, 1000)", 1);
        r.sheetIs(0, 0, 0, 0);
        r.sheetIs(1, 6, 11, 1000);
    }

    static void p02_sheet__its_number_0_to_9(Run r) {
        for (int i = 0; i < 10; i++) {
            r.due("sheet(" + i % 7 + ", " + i + ", " + (1000 - i) + ")", i);
        }
        for (int i = 0; i < 10; i++) {
            r.sheetIs(i, i % 7, i, 1000 - i);
        }
    }

    static void p02_sheet__FULL_an_11th(Run r) {
        r.sheets(9);
        r.due("sheet(1, 1, 1)", 9);
        r.refused("sheet(1, 1, 1)", FULL);
        r.refused("sheet(1, 1, 1)", FULL);
        r.due("count(0)", 10);
    }

    static void p02_sheet__BEYOND_ahead_of_FULL(Run r) {
        r.sheets(10);
        r.refused("sheet(7, 0, 0)", BEYOND);
        r.refused("sheet(0, 12, 0)", BEYOND);
        r.refused("sheet(0, 0, 1001)", BEYOND);
        r.refused("sheet(0, 0, 0)", FULL);
    }

    // ---- 3: sheetOf

    static void p03_sheetOf__BEYOND_no_SHEETS(Run r) {
        r.refused("sheetOf(0, 0)", BEYOND);
        r.refused("sheetOf(-1, 0)", BEYOND);
    }

    static void p03_sheetOf__BEYOND_one_SHEET(Run r) {
        r.sheets(1);
        r.bounds("sheetOf(#, 0)", 0, 0);
    }

    static void p03_sheetOf__BEYOND_ten_SHEETS(Run r) {
        r.sheets(10);
        r.bounds("sheetOf(#, 2)", 0, 9);
    }

    static void p03_sheetOf__BEYOND_what_0_to_2(Run r) {
        r.does("sheet(6, 11, 1000)");
        r.bounds("sheetOf(0, #)", 0, 2);
        r.reads("sheetOf(0, 0)", 6);
        r.reads("sheetOf(0, 1)", 11);
        r.reads("sheetOf(0, 2)", 1000);
    }

    // ---- 4: change

    static void p04_change__BEYOND_no_such_SHEET(Run r) {
        r.refused("change(0, 0, 0)", BEYOND);
        r.sheets(1);
        r.bounds("change(#, 0, 1)", 0, 0);
        r.sheets(9);
        r.bounds("change(#, 1, 1)", 0, 9);
    }

    static void p04_change__BEYOND_what_0_to_2(Run r) {
        r.sheets(2);
        r.bounds("change(1, #, 0)", 0, 2);
    }

    static void p04_change__BEYOND_KIND_0_to_6(Run r) {
        r.sheets(2);
        r.bounds("change(1, 0, #)", 0, 6);
    }

    static void p04_change__BEYOND_TURN_0_to_11(Run r) {
        r.sheets(2);
        r.bounds("change(1, 1, #)", 0, 11);
    }

    static void p04_change__BEYOND_PASS_0_to_1000(Run r) {
        r.sheets(2);
        r.bounds("change(1, 2, #)", 0, 1000);
    }

    static void p04_change__what_it_was_least_and_greatest(Run r) {
        r.does("sheet(3, 4, 500)", "sheet(3, 4, 500)");
        int[][] due = {{0, 0, 3}, {0, 6, 0}, {0, 6, 6}, {1, 0, 4}, {1, 11, 0}, {1, 11, 11}, {2, 0, 500}, {2, 1000, 0}, {2, 1000, 1000}};
        for (int[] d : due) {
            r.due("change(1, " + d[0] + ", " + d[1] + ")", d[2]);
        }
        r.sheetIs(1, 6, 11, 1000);
        r.sheetIs(0, 3, 4, 500);
    }

    // ---- 5: load

    static void p05_load__BEYOND_0_to_11(Run r) {
        r.does("load(3)");
        r.bounds("load(#)", 0, 11);
    }

    static void p05_load__what_it_was(Run r) {
        r.due("load(11)", 0);
        r.due("load(0)", 11);
        r.due("load(0)", 0);
    }

    // ---- 6: lamp

    static void p06_lamp__BEYOND_SHARE_0_to_1000(Run r) {
        r.bounds("lamp(0, #)", 0, 1000);
    }

    static void p06_lamp__BEYOND_SLANT_minus_1_to_11(Run r) {
        r.does("lamp(1, 5)");
        r.bounds("lamp(1, #)", -1, 11);
    }

    static void p06_lamp__BEYOND_what_0_and_1(Run r) {
        r.bounds("lamp(#, 0)", 0, 1);
    }

    static void p06_lamp__a_SHARE_may_be_above_11_but_not_minus_1(Run r) {
        r.due("lamp(0, 12)", 1000);
        r.refused("lamp(0, -1)", BEYOND);
        r.due("lamp(1, -1)", -1);
        r.refused("lamp(1, 12)", BEYOND);
    }

    static void p06_lamp__what_it_was_MIXED_too(Run r) {
        r.due("lamp(1, 0)", -1);
        r.due("lamp(1, 11)", 0);
        r.due("lamp(1, -1)", 11);
        r.due("lamp(1, -1)", -1);
        r.due("lamp(0, 0)", 1000);
        r.due("lamp(0, 1000)", 0);
        r.lampIs(1000, -1);
    }

    // ---- 7: lay

    static void p07_lay__BEYOND_STACKS_0_to_3(Run r) {
        r.sheets(1);
        r.bounds("lay(#, 0)", 0, 3);
    }

    static void p07_lay__BEYOND_no_such_SHEET(Run r) {
        r.refused("lay(0, 0)", BEYOND);
        r.sheets(1);
        r.bounds("lay(0, #)", 0, 0);
        r.sheets(9);
        r.bounds("lay(3, #)", 0, 9);
    }

    static void p07_lay__how_many_it_has_1_to_6(Run r) {
        r.sheets(3);
        for (int i = 0; i < 6; i++) {
            r.due("lay(3, " + i % 3 + ")", i + 1);
        }
        r.stackIs(3, 0, 1, 2, 0, 1, 2);
    }

    static void p07_lay__FULL_a_7th(Run r) {
        r.sheets(2);
        for (int stack = 0; stack < 4; stack++) {
            r.lays(stack, 0, 1, 0, 1, 0);
            r.due("lay(" + stack + ", 1)", 6);
            r.refused("lay(" + stack + ", 1)", FULL);
        }
        r.due("count(1)", 24);
    }

    static void p07_lay__FULL_one_STACK_leaves_room_in_others(Run r) {
        r.sheets(1);
        r.lays(0, 0, 0, 0, 0, 0, 0);
        r.refused("lay(0, 0)", FULL);
        r.due("lay(1, 0)", 1);
        r.due("off(0)", 0);
        r.due("lay(0, 0)", 6);
    }

    static void p07_lay__BEYOND_ahead_of_FULL(Run r) {
        r.sheets(1);
        r.lays(0, 0, 0, 0, 0, 0, 0);
        r.refused("lay(0, 1)", BEYOND);
        r.refused("lay(0, -1)", BEYOND);
    }

    // ---- 8: off

    static void p08_off__BEYOND_STACKS_0_to_3(Run r) {
        r.sheets(1);
        r.lays(0, 0);
        r.lays(3, 0);
        r.bounds("off(#)", 0, 3);
    }

    static void p08_off__NONE_it_is_empty(Run r) {
        for (int stack = 0; stack < 4; stack++) {
            r.refused("off(" + stack + ")", NONE);
        }
    }

    static void p08_off__the_last_of_one(Run r) {
        r.sheets(10);
        r.lays(2, 9);
        r.due("off(2)", 9);
        r.refused("off(2)", NONE);
    }

    static void p08_off__the_last_of_six(Run r) {
        r.sheets(6);
        r.lays(0, 5, 4, 3, 2, 1, 0);
        for (int i = 0; i < 6; i++) {
            r.due("off(0)", i);
        }
        r.refused("off(0)", NONE);
    }

    // ---- 9: at

    static void p09_at__BEYOND_STACKS_0_to_3(Run r) {
        r.sheets(1);
        r.lays(0, 0);
        r.lays(3, 0);
        r.bounds("at(#, 0)", 0, 3);
    }

    static void p09_at__BEYOND_i_0_to_5(Run r) {
        r.sheets(6);
        r.lays(1, 5, 4, 3, 2, 1, 0);
        r.bounds("at(1, #)", 0, 5);
        r.reads("at(1, 0)", 5);
        r.reads("at(1, 5)", 0);
    }

    static void p09_at__NONE_it_has_not_so_many(Run r) {
        r.sheets(1);
        r.refused("at(0, 0)", NONE);
        r.lays(0, 0, 0, 0);
        r.due("at(0, 2)", 0);
        r.refused("at(0, 3)", NONE);
        r.refused("at(0, 5)", NONE);
        r.lays(0, 0, 0);
        r.due("at(0, 4)", 0);
        r.refused("at(0, 5)", NONE);
    }

    static void p09_at__NONE_one_that_was_taken_off(Run r) {
        r.sheets(2);
        r.lays(0, 0, 1);
        r.does("off(0)");
        r.refused("at(0, 1)", NONE);
    }

    static void p09_at__BEYOND_ahead_of_NONE(Run r) {
        r.refused("at(0, 6)", BEYOND);
        r.refused("at(0, -1)", BEYOND);
    }

    // ---- 10: round

    static void p10_round__BEYOND_STACKS_0_to_3(Run r) {
        r.sheets(2);
        r.lays(0, 0, 1);
        r.lays(3, 0, 1);
        r.bounds("round(#)", 0, 3);
    }

    static void p10_round__an_empty_one(Run r) {
        r.reads("round(0)", 0);
    }

    static void p10_round__one_SHEET(Run r) {
        r.sheets(2);
        r.lays(0, 1);
        r.reads("round(0)", 1);
    }

    static void p10_round__two_three_five_and_six(Run r) {
        r.sheets(6);
        r.lays(0, 0, 1);
        r.due("round(0)", 2);
        r.stackIs(0, 1, 0);
        r.lays(1, 0, 1, 2);
        r.due("round(1)", 3);
        r.stackIs(1, 2, 1, 0);
        r.lays(2, 0, 1, 2, 3, 4);
        r.due("round(2)", 5);
        r.stackIs(2, 4, 3, 2, 1, 0);
        r.lays(3, 0, 1, 2, 3, 4, 5);
        r.due("round(3)", 6);
        r.stackIs(3, 5, 4, 3, 2, 1, 0);
    }

    // ---- 11: like

    static void p11_like__BEYOND_STACKS_0_to_3(Run r) {
        r.sheets(2);
        r.lays(0, 0, 1);
        r.lays(3, 1);
        r.bounds("like(#, 0)", 0, 3);
        r.bounds("like(0, #)", 0, 3);
    }

    static void p11_like__itself(Run r) {
        r.reads("like(0, 0)", 0);
        r.sheets(2);
        r.lays(0, 0, 1, 0, 1, 0, 1);
        r.reads("like(0, 0)", 6);
    }

    static void p11_like__an_empty_one_and_a_full_one(Run r) {
        r.sheets(6);
        r.lays(0, 0, 1, 2, 3, 4, 5);
        r.due("like(3, 0)", 6);
        r.stackIs(3, 0, 1, 2, 3, 4, 5);
        r.due("like(3, 1)", 0);
        r.stackIs(3);
        r.due("lay(3, 2)", 1);
        r.due("like(0, 3)", 1);
        r.stackIs(0, 2);
    }

    static void p11_like__each_stays_its_own_then(Run r) {
        r.sheets(3);
        r.lays(0, 0, 1);
        r.does("like(1, 0)");
        r.does("off(0)", "lay(0, 2)", "lay(0, 2)");
        r.stackIs(1, 0, 1);
        r.lays(1, 1);
        r.stackIs(0, 0, 2, 2);
    }
}
