/** Boundary cases of promises 45 to 49. */
final class ImagesBounds {
    private static final int BEYOND = Check.BEYOND;
    private static final int NONE = Check.NONE;

    private ImagesBounds() {
    }

    private static void some(Run r) {
        r.does("sheet(1, 2, 3)", "sheet(6, 5, 600)", "load(7)", "lamp(0, 500)", "lamp(1, 9)", "look(9, 500)", "seed(77)", "hold(5, 1)");
        r.lays(0, 0);
        r.lays(2, 1, 0, 1);
    }

    /** Changes all that an image keeps. */
    private static void other(Run r) {
        r.does("change(0, 0, 4)", "change(0, 1, 11)", "change(1, 2, 0)", "sheet(2, 2, 2)", "load(11)", "lamp(0, 1)", "lamp(1, -1)",
            "clear()", "look(1, 1)", "look(2, 2)", "seed(-1)", "hold(5, 0)", "hold(9, 2)", "off(0)", "lay(2, 2)", "lay(3, 2)");
    }

    private static void full(Run r) {
        for (int i = 0; i < 10; i++) {
            r.does("sheet(" + i % 7 + ", " + (11 - i) + ", " + (1000 - i) + ")", "hold(" + i + ", " + i + ")");
        }
        for (int stack = 0; stack < 4; stack++) {
            r.lays(stack, 9, stack, 8, stack, 7, stack);
        }
        r.does("load(11)", "lamp(0, 0)", "lamp(1, 11)", "look(0, 0)", "look(11, 0)", "look(5, 0)", "look(6, 0)", "seed(-2147483648)");
    }

    // ---- 45: image

    static void p45_image__of_a_new_object(Run r) {
        r.due("image()", 1);
        some(r);
        r.due("undo()", 0);
        r.due("count(0)", 0);
        r.due("count(1)", 0);
        r.due("count(2)", 0);
        r.due("count(3)", 0);
        r.due("count(5)", 1);
        r.due("count(6)", 0);
        r.lampIs(1000, -1);
        r.refused("sheetOf(0, 0)", BEYOND);
    }

    static void p45_image__of_all_that_can_be(Run r) {
        full(r);
        r.due("image()", 1);
        String before = r.state();
        r.does("change(9, 0, 6)", "change(9, 1, 0)", "change(9, 2, 0)", "off(3)", "round(0)", "clear()", "load(0)", "lamp(0, 1000)",
            "lamp(1, -1)", "seed(0)", "hold(9, -1)", "hold(0, 9)");
        r.due("undo()", 10);
        r.same("undo()", before);
    }

    static void p45_image__THE_TAPE_is_not_kept(Run r) {
        r.feeds("load 3");
        r.does("image()", "wipe()");
        r.feeds("load 11");
        r.due("undo()", 0);
        r.due("count(4)", 7);
        r.due("text()", 1);
        r.due("count(3)", 11);
    }

    static void p45_image__rows_are_not_kept(Run r) {
        r.does("row(0, 8, 40)", "row(1, 16, 1)", "image()", "row(0, 0, 0)", "row(1, 32, 2)", "row(2, 8, 3)");
        r.due("undo()", 0);
        r.due("write(0, 0, 0)", Check.MISSING);
        r.due("write(1, 1, 0)", 1);
        r.due("write(2, 2, 0)", 1);
        r.due("copy(1, 0, 2, 0, 0)", Check.KIND);
    }

    static void p45_image__changes_nothing_else(Run r) {
        some(r);
        r.does("image()");
        r.reads("image()", 1);
    }

    // ---- 46: undo

    static void p46_undo__NONE_nothing_is_kept(Run r) {
        r.refused("undo()", NONE);
        some(r);
        r.refused("undo()", NONE);
    }

    static void p46_undo__how_many_SHEETS_0_to_10(Run r) {
        r.does("image()");
        r.due("undo()", 0);
        r.sheets(10);
        r.due("undo()", 0);
        r.sheets(10);
        r.does("image()");
        r.due("undo()", 10);
    }

    static void p46_undo__all_becomes_what_was_kept(Run r) {
        some(r);
        r.does("image()");
        String before = r.state();
        other(r);
        r.due("undo()", 2);
        r.same("undo()", before);
    }

    static void p46_undo__what_was_kept_stays(Run r) {
        some(r);
        r.does("image()");
        String before = r.state();
        other(r);
        r.due("undo()", 2);
        other(r);
        r.due("undo()", 2);
        r.same("undo()", before);
        r.reads("undo()", 2);
    }

    static void p46_undo__the_latest_of_several(Run r) {
        r.does("image()");
        some(r);
        r.does("image()");
        String before = r.state();
        other(r);
        r.due("undo()", 2);
        r.same("undo()", before);
        r.sheets(1);
        r.does("image()");
        r.due("undo()", 3);
    }

    static void p46_undo__by_text_and_years_and_order_too(Run r) {
        some(r);
        r.does("image()");
        String before = r.state();
        r.does("years(1)", "clear()", "order(2)", "drawn(1, 3)");
        r.text("horn;stack 0 2;lamp 3 mixed;load 2", 4);
        r.due("undo()", 2);
        r.same("undo()", before);
    }

    // ---- 47: tear

    static void p47_tear__nothing_was_kept(Run r) {
        r.reads("tear()", 0);
    }

    static void p47_tear__1_and_then_0(Run r) {
        r.does("image()", "image()");
        r.due("tear()", 1);
        r.due("tear()", 0);
        r.refused("undo()", NONE);
    }

    static void p47_tear__what_there_is_stays(Run r) {
        some(r);
        String before = r.state();
        r.does("image()");
        r.due("tear()", 1);
        r.same("tear()", before);
    }

    static void p47_tear__after_undo_it_is_kept_still(Run r) {
        r.does("image()", "undo()");
        r.due("tear()", 1);
        r.does("image()");
        r.due("undo()", 0);
    }

    // ---- 48: count

    static void p48_count__BEYOND_what_0_to_6(Run r) {
        r.bounds("count(#)", 0, 6);
        full(r);
        r.refused("count(7)", BEYOND);
        r.refused("count(-1)", BEYOND);
    }

    static void p48_count__none(Run r) {
        int[] due = {0, 0, 0, 0, 0, 1, 0};
        for (int what = 0; what < 7; what++) {
            r.reads("count(" + what + ")", due[what]);
        }
    }

    static void p48_count__as_many_as_can_be(Run r) {
        full(r);
        r.feeds("?".repeat(120));
        int[] due = {10, 24, 4, 11, 120, Integer.MIN_VALUE, 10};
        for (int what = 0; what < 7; what++) {
            r.reads("count(" + what + ")", due[what]);
        }
    }

    static void p48_count__SHEETS_in_STACKS_each_as_often_as_it_is(Run r) {
        r.sheets(2);
        r.lays(0, 1, 1, 1);
        r.lays(3, 1);
        r.reads("count(1)", 4);
    }

    // ---- 49: status

    static void p49_status__BEYOND_another_one(Run r) {
        r.bounds("status(#)", -1, 6);
    }

    static void p49_status__BEYOND_counted_from_then_on(Run r) {
        r.due("status(0)", 0);
        r.due("status(7)", BEYOND);
        r.due("status(0)", 1);
        r.due("status(-1)", 1);
        r.due("status(-2)", BEYOND);
        r.due("status(0)", 2);
        r.due("status(-1)", 2);
    }

    static void p49_status__each_of_0_to_6(Run r) {
        r.does("sheet(1, 0, 0)", "hold(0, 0)");
        r.times(4, "look(0, 0)");
        String[] calls = {"load(12)", "look(0, 0)", "as(0, 2)", "off(0)", "sheetOf(1, 0)", "write(0, 0, 0)", "row(0, 8, -1)"};
        int[] findings = {BEYOND, Check.FULL, Check.KIND, NONE, BEYOND, Check.MISSING, Check.SIZE};
        for (int i = 0; i < 7; i++) {
            r.due(calls[i], findings[i]);
        }
        int[] due = {7, 2, 1, 1, 1, 0, 1, 1};
        for (int which = -1; which < 7; which++) {
            r.reads("status(" + which + ")", due[which + 1]);
        }
    }

    static void p49_status__STATE_is_4(Run r) {
        r.due("drawn(0, 1)", Check.STATE);
        r.due("status(4)", 1);
        r.due("status(-1)", 1);
        r.due("status(3)", 0);
        r.due("status(5)", 0);
    }

    static void p49_status__undo_takes_none_back(Run r) {
        r.does("image()");
        r.due("off(0)", NONE);
        r.due("load(12)", BEYOND);
        r.due("undo()", 0);
        r.due("status(0)", 1);
        r.due("status(3)", 1);
        r.due("status(-1)", 2);
    }

    static void p49_status__an_image_keeps_none(Run r) {
        r.due("off(0)", NONE);
        r.does("image()");
        r.due("undo()", 0);
        r.due("status(3)", 1);
        r.does("tear()");
        r.due("undo()", NONE);
        r.due("status(3)", 2);
    }

    static void p49_status__acts_that_answer_none_are_not_counted(Run r) {
        some(r);
        r.does("image()", "undo()", "tear()", "seed(-1000001)", "count(5)", "seed(5)");
        r.text("?", -1);
        r.due("status(-1)", 0);
    }
}
