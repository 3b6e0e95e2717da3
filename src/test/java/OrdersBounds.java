/** Boundary cases of promises 24 to 28. */
final class OrdersBounds {
    private static final int BEYOND = Check.BEYOND;
    private static final int FULL = Check.FULL;
    private static final int NONE = Check.NONE;

    private OrdersBounds() {
    }

    /** Six sheets: 0 is a turner by 3, 5 a filter at 0; of mixed light 500 comes at 3 if the filter is ahead, else at 0. */
    private static void six(Run r) {
        r.does("sheet(2, 3, 0)");
        r.sheets(4);
        r.does("sheet(1, 0, 0)");
        r.lays(1, 2, 5, 0, 4, 3, 1);
    }

    // ---- 24: look

    static void p24_look__BEYOND_tilt_0_to_11(Run r) {
        r.bounds("look(#, 500)", 0, 11);
    }

    static void p24_look__BEYOND_v_0_to_1000(Run r) {
        r.bounds("look(0, #)", 0, 1000);
    }

    static void p24_look__how_many_1_to_4(Run r) {
        r.due("look(0, 0)", 1);
        r.due("look(11, 1000)", 2);
        r.due("look(11, 1000)", 3);
        r.due("look(5, 5)", 4);
        r.due("count(2)", 4);
    }

    static void p24_look__FULL_a_5th(Run r) {
        r.times(4, "look(0, 500)");
        r.refused("look(0, 500)", FULL);
        r.refused("look(0, 0)", FULL);
        r.due("orders(0)", 1);
    }

    static void p24_look__BEYOND_ahead_of_FULL(Run r) {
        r.times(4, "look(0, 500)");
        r.refused("look(12, 500)", BEYOND);
        r.refused("look(-1, 500)", BEYOND);
        r.refused("look(0, 1001)", BEYOND);
        r.refused("look(0, -1)", BEYOND);
    }

    // ---- 25: clear

    static void p25_clear__none(Run r) {
        r.reads("clear()", 0);
    }

    static void p25_clear__all_4_and_4_again(Run r) {
        r.times(4, "look(0, 0)");
        r.due("orders(0)", 0);
        r.due("clear()", 4);
        r.due("count(2)", 0);
        r.due("orders(0)", 1);
        r.times(3, "look(0, 500)");
        r.due("look(0, 500)", 4);
        r.refused("look(0, 500)", FULL);
        r.due("orders(0)", 1);
        r.due("clear()", 4);
        r.due("clear()", 0);
    }

    // ---- 26: orders

    static void p26_orders__BEYOND_STACKS_0_to_3(Run r) {
        r.bounds("orders(#)", 0, 3);
    }

    static void p26_orders__an_empty_STACK_has_one(Run r) {
        r.reads("orders(0)", 1);
        r.does("look(11, 500)");
        r.reads("orders(0)", 1);
        r.does("look(11, 501)");
        r.reads("orders(0)", 0);
    }

    static void p26_orders__one_SHEET_has_one(Run r) {
        r.sheets(1);
        r.lays(0, 0);
        r.reads("orders(0)", 1);
    }

    static void p26_orders__six_unlike_SHEETS_have_720(Run r) {
        six(r);
        r.reads("orders(1)", 720);
        r.does("look(3, 500)");
        r.reads("orders(1)", 360);
        r.does("look(0, 500)");
        r.reads("orders(1)", 0);
    }

    static void p26_orders__are_unlike_rows(Run r) {
        r.sheets(3);
        r.lays(0, 0, 0, 0, 0, 0, 0);
        r.reads("orders(0)", 1);
        r.lays(1, 0, 0, 0, 0, 0, 1);
        r.reads("orders(1)", 6);
        r.lays(2, 2, 1, 2, 1, 2, 1);
        r.reads("orders(2)", 20);
        r.lays(3, 2, 1, 0, 0, 1, 2);
        r.reads("orders(3)", 90);
    }

    static void p26_orders__of_alike_SHEETS_with_unlike_numbers(Run r) {
        r.does("sheet(4, 1, 500)", "sheet(4, 1, 500)");
        r.lays(0, 0, 1);
        r.reads("orders(0)", 2);
    }

    static void p26_orders__each_of_4_LOOKS_has_to_fit(Run r) {
        int[] right = {500, 466, 375, 250};
        for (int wrong = 0; wrong < 4; wrong++) {
            Run one = r.again();
            one.does("lamp(0, 500)", "lamp(1, 0)");
            for (int tilt = 0; tilt < 4; tilt++) {
                one.does("look(" + tilt + ", " + (tilt == wrong ? right[tilt] + 1 : right[tilt]) + ")");
            }
            one.due("orders(0)", 0);
        }
        r.does("lamp(0, 500)", "lamp(1, 0)", "look(0, 500)", "look(1, 466)", "look(2, 375)", "look(3, 250)");
        r.reads("orders(0)", 1);
    }

    static void p26_orders__LOOKS_at_0_and_11_of_0_and_1000(Run r) {
        r.lamp(1000, 11);
        r.does("look(11, 1000)", "look(5, 0)", "look(0, 933)");
        r.reads("orders(0)", 1);
    }

    static void p26_orders__from_the_front(Run r) {
        r.does("sheet(2, 1, 0)", "lamp(1, 0)", "look(1, 1000)");
        r.lays(0, 0);
        r.reads("orders(0)", 1);
    }

    // ---- 27: order

    static void p27_order__BEYOND_STACKS_0_to_3(Run r) {
        r.bounds("order(#)", 0, 3);
    }

    static void p27_order__NONE_no_ORDER_fits(Run r) {
        six(r);
        r.does("look(3, 501)");
        r.refused("order(1)", NONE);
        r.stackIs(1, 2, 5, 0, 4, 3, 1);
    }

    static void p27_order__an_empty_STACK(Run r) {
        r.reads("order(0)", 1);
        r.does("look(11, 500)");
        r.reads("order(0)", 1);
        r.does("look(11, 499)");
        r.refused("order(0)", NONE);
    }

    static void p27_order__one_SHEET(Run r) {
        r.sheets(1);
        r.lays(0, 0);
        r.reads("order(0)", 1);
    }

    static void p27_order__the_very_first(Run r) {
        six(r);
        r.due("order(1)", 1);
        r.stackIs(1, 0, 1, 2, 3, 4, 5);
        r.reads("order(1)", 1);
    }

    static void p27_order__the_first_where_halves_fit(Run r) {
        six(r);
        r.does("look(3, 500)");
        r.due("order(1)", 1);
        r.stackIs(1, 1, 2, 3, 4, 5, 0);
    }

    /** From slant 4 most comes at 10 when the filters step there one by one: 933, 870, 811, 756, 705, 657. */
    static void p27_order__the_very_last(Run r) {
        for (int turn : new int[] {10, 11, 0, 1, 2, 3}) {
            r.does("sheet(1, " + turn + ", 0)");
        }
        r.lays(0, 0, 1, 2, 3, 4, 5);
        r.lamp(1000, 4);
        r.does("look(10, 657)");
        r.due("orders(0)", 1);
        r.due("order(0)", 1);
        r.stackIs(0, 5, 4, 3, 2, 1, 0);
    }

    static void p27_order__each_SHEET_as_often_as_it_was(Run r) {
        r.sheets(10);
        r.lays(0, 9, 0, 9, 0, 9, 5);
        r.due("order(0)", 1);
        r.stackIs(0, 0, 0, 5, 9, 9, 9);
    }

    // ---- 28: apart

    static void p28_apart__BEYOND_STACKS_0_to_3(Run r) {
        r.bounds("apart(#)", 0, 3);
    }

    static void p28_apart__the_least_TILT_of_several(Run r) {
        r.reads("apart(0)", 0);
        r.sheets(2);
        r.lays(1, 0, 1);
        r.reads("apart(1)", 0);
        r.lays(2, 0, 0, 0, 0, 0, 0);
        r.reads("apart(2)", 0);
    }

    /** Two orders come out at 10 and 0: tilts 11 and 5 see them alike, all others apart. */
    static void p28_apart__TILT_0_where_it_tells_and_1_where_0_does_not(Run r) {
        r.does("sheet(1, 0, 0)", "sheet(2, 10, 0)");
        r.lays(0, 0, 1);
        r.reads("apart(0)", 0);
        r.does("change(0, 1, 1)");
        r.reads("apart(0)", 1);
        r.does("change(0, 1, 7)");
        r.reads("apart(0)", 1);
    }

    /** A share of 1 is seen only at the slant at which it comes out: 4 or 6, then 9 or 11, then 10 or 0. */
    static void p28_apart__numbers_that_are_cut_alike_are_alike(Run r) {
        r.does("sheet(1, 4, 0)", "sheet(2, 2, 0)", "lamp(0, 2)");
        r.lays(0, 0, 1);
        r.reads("apart(0)", 4);
        r.does("change(0, 1, 9)");
        r.reads("apart(0)", 9);
        r.does("change(0, 1, 10)");
        r.reads("apart(0)", 0);
    }

    /** The smoke lets 2 of 3 through, but nothing of 1: only tilt 11 can see if it comes first. */
    static void p28_apart__TILT_11(Run r) {
        r.does("sheet(1, 11, 0)", "sheet(4, 0, 667)", "lamp(0, 3)");
        r.lays(0, 0, 1);
        r.reads("apart(0)", 11);
    }

    /** Light comes out at 11, 0, 1, 2, 3 or 4: 4 is the least tilt that sees all six unlike. */
    static void p28_apart__most_unlike_numbers(Run r) {
        r.does("sheet(1, 11, 0)", "sheet(2, 1, 0)");
        r.lays(0, 1, 1, 1, 0, 1, 1);
        r.reads("apart(0)", 4);
    }

    /** 1000 comes out at 6, or nothing at 0: tilt 0 sees 0 both times, 1 sees 67 and 0. */
    static void p28_apart__0_and_1000_are_SEEN(Run r) {
        r.does("sheet(1, 0, 0)", "sheet(2, 6, 0)", "lamp(1, 0)");
        r.lays(0, 0, 1);
        r.lays(1, 0);
        r.reads("apart(0)", 1);
        r.reads("apart(1)", 0);
    }

    static void p28_apart__by_all_ORDERS_whether_they_fit_or_not(Run r) {
        six(r);
        r.does("change(5, 1, 11)", "change(0, 1, 2)");
        r.reads("apart(1)", 1);
        r.does("look(0, 3)");
        r.reads("apart(1)", 1);
    }
}
