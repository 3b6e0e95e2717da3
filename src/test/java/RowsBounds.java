/** Boundary cases of promises 38 to 44. */
final class RowsBounds {
    private static final int BEYOND = Check.BEYOND;
    private static final int KIND = Check.KIND;
    private static final int MISSING = Check.MISSING;
    private static final int SIZE = Check.SIZE;
    private static final int MAX = Integer.MAX_VALUE;
    private static final int MIN = Integer.MIN_VALUE;

    private RowsBounds() {
    }

    /** A row of these numbers. */
    private static void row(Run r, int s, int bits, int... numbers) {
        r.does("row(" + s + ", " + bits + ", " + numbers.length + ")");
        for (int i = 0; i < numbers.length; i++) {
            r.does("write(" + s + ", " + i + ", " + numbers[i] + ")");
        }
    }

    // ---- 38: hold

    static void p38_hold__BEYOND_SPOTS_0_to_9(Run r) {
        r.sheets(1);
        r.bounds("hold(#, 0)", 0, 9);
        r.bounds("hold(#, -1)", 0, 9);
    }

    static void p38_hold__BEYOND_a_SHEET_or_minus_1(Run r) {
        r.bounds("hold(0, #)", -1, -1);
        r.sheets(1);
        r.bounds("hold(0, #)", -1, 0);
        r.sheets(9);
        r.bounds("hold(9, #)", -1, 9);
    }

    static void p38_hold__all_ten_and_none(Run r) {
        r.sheets(10);
        for (int spot = 0; spot < 10; spot++) {
            r.due("hold(" + spot + ", " + (9 - spot) + ")", 1);
            r.due("count(6)", spot + 1);
        }
        for (int spot = 0; spot < 10; spot++) {
            r.due("as(" + spot + ", 0)", 9 - spot);
        }
        for (int spot = 0; spot < 10; spot++) {
            r.due("hold(" + spot + ", -1)", 1);
            r.due("count(6)", 9 - spot);
        }
        r.reads("hold(0, -1)", 1);
    }

    // ---- 39: as

    static void p39_as__BEYOND_SPOTS_0_to_9(Run r) {
        r.sheets(1);
        r.does("hold(0, 0)", "hold(9, 0)");
        r.bounds("as(#, 0)", 0, 9);
    }

    static void p39_as__BEYOND_kind_0_to_6(Run r) {
        r.does("sheet(0, 0, 0)", "hold(0, 0)");
        for (int kind : new int[] {-1, 7, MIN, MAX}) {
            r.refused("as(0, " + kind + ")", BEYOND);
        }
        r.reads("as(0, 0)", 0);
        r.does("change(0, 0, 6)");
        r.reads("as(0, 6)", 0);
    }

    static void p39_as__MISSING_it_holds_nothing(Run r) {
        r.refused("as(0, 0)", MISSING);
        r.refused("as(9, 6)", MISSING);
        r.does("sheet(0, 0, 0)", "hold(0, 0)", "hold(0, -1)");
        r.refused("as(0, 0)", MISSING);
    }

    static void p39_as__KIND_not_of_that_nor_under_it(Run r) {
        String[] under = {"0", "1 0", "2 0", "3 2 0", "4 0", "5 1 0", "6 2 0"};
        r.does("sheet(0, 0, 0)", "sheet(0, 0, 0)", "hold(0, 1)");
        for (int kind = 0; kind < 7; kind++) {
            r.does("change(1, 0, " + kind + ")");
            for (int upper = 0; upper < 7; upper++) {
                if (under[kind].contains("" + upper)) {
                    r.due("as(0, " + upper + ")", 1);
                } else {
                    r.due("as(0, " + upper + ")", KIND);
                }
            }
        }
        r.refused("as(0, 3)", KIND);
    }

    static void p39_as__BEYOND_ahead_of_MISSING(Run r) {
        r.refused("as(0, 7)", BEYOND);
        r.refused("as(0, -1)", BEYOND);
        r.refused("as(10, 0)", BEYOND);
    }

    static void p39_as__BEYOND_ahead_of_KIND(Run r) {
        r.does("sheet(1, 0, 0)", "hold(0, 0)");
        r.refused("as(0, 7)", BEYOND);
        r.refused("as(0, 2)", KIND);
    }

    // ---- 40: row

    static void p40_row__BEYOND_rows_0_to_3(Run r) {
        r.bounds("row(#, 8, 1)", 0, 3);
        r.bounds("row(#, 0, 0)", 0, 3);
    }

    static void p40_row__BEYOND_other_bits_than_0_8_16_32(Run r) {
        row(r, 0, 16, 5);
        for (int bits : new int[] {MIN, -32, -16, -8, -1, 1, 7, 9, 15, 17, 24, 31, 33, 64, 256, MAX}) {
            r.refused("row(0, " + bits + ", 1)", BEYOND);
        }
        r.due("row(1, 8, 1)", 1);
        r.due("row(2, 16, 1)", 1);
        r.due("row(3, 32, 1)", 1);
        r.due("row(0, 0, 1)", 0);
    }

    static void p40_row__SIZE_n_below_0(Run r) {
        row(r, 0, 16, 5);
        r.refused("row(0, 8, -1)", SIZE);
        r.refused("row(0, 32, " + MIN + ")", SIZE);
        r.due("row(0, 8, 0)", 0);
    }

    static void p40_row__SIZE_n_below_0_also_with_bits_0(Run r) {
        row(r, 0, 16, 5);
        r.refused("row(0, 0, -1)", SIZE);
        r.refused("row(0, 0, " + MIN + ")", SIZE);
        r.due("row(0, 0, 0)", 0);
    }

    static void p40_row__BEYOND_n_above_40(Run r) {
        row(r, 0, 16, 5);
        r.refused("row(0, 8, 41)", BEYOND);
        r.refused("row(0, 8, " + MAX + ")", BEYOND);
        r.due("row(0, 8, 40)", 40);
        r.due("write(0, 39, 1)", 1);
    }

    static void p40_row__BEYOND_n_above_40_also_with_bits_0(Run r) {
        row(r, 0, 16, 5);
        r.refused("row(0, 0, 41)", BEYOND);
        r.refused("row(0, 0, " + MAX + ")", BEYOND);
        r.due("row(0, 0, 40)", 0);
        r.refused("write(0, 0, 0)", MISSING);
    }

    static void p40_row__BEYOND_no_such_row_or_bits_ahead_of_SIZE(Run r) {
        r.refused("row(4, 8, -1)", BEYOND);
        r.refused("row(-1, 0, -1)", BEYOND);
        r.refused("row(0, 7, -1)", BEYOND);
    }

    static void p40_row__of_no_numbers_is_not_MISSING(Run r) {
        r.due("row(0, 8, 0)", 0);
        r.refused("write(0, 0, 0)", BEYOND);
        r.due("copy(0, 0, 0, 0, 0)", 0);
        r.due("judge(0, 0)", 0);
    }

    static void p40_row__all_are_0_again(Run r) {
        r.lamp(0, -1);
        for (int bits = 8; bits <= 32; bits *= 2) {
            row(r, 0, bits, 1, 1, 1, 1, 1, 1, 1, 1, 1, 1, 1, 1);
            r.due("judge(0, 0)", 1);
            r.due("row(0, " + bits + ", 12)", 12);
            r.due("judge(0, 0)", 0);
        }
        r.does("row(0, 8, 40)", "row(1, 8, 1)", "write(0, 39, 1)", "copy(0, 39, 1, 0, 1)");
        r.due("judge(1, 0)", 1);
        r.does("row(0, 8, 40)", "copy(0, 39, 1, 0, 1)");
        r.due("judge(1, 0)", 0);
    }

    static void p40_row__bits_0_is_MISSING(Run r) {
        row(r, 3, 8, 5, 6);
        r.due("row(3, 0, 0)", 0);
        r.refused("write(3, 0, 0)", MISSING);
        r.refused("from(3, 0)", MISSING);
        r.refused("judge(3, 0)", MISSING);
        r.refused("copy(3, 0, 3, 0, 0)", MISSING);
    }

    // ---- 41: write

    static void p41_write__BEYOND_rows_0_to_3(Run r) {
        for (int s = 0; s < 4; s++) {
            row(r, s, 8, 0);
        }
        r.bounds("write(#, 0, 5)", 0, 3);
    }

    static void p41_write__MISSING(Run r) {
        r.refused("write(0, 0, 0)", MISSING);
        r.does("row(0, 8, 1)");
        r.due("write(0, 0, 0)", 1);
        r.does("row(0, 0, 1)");
        r.refused("write(0, 0, 0)", MISSING);
    }

    static void p41_write__BEYOND_no_such_number(Run r) {
        row(r, 0, 8, 1);
        r.bounds("write(0, #, 5)", 0, 0);
        r.does("row(1, 32, 40)");
        r.bounds("write(1, #, 5)", 0, 39);
        r.does("row(2, 16, 0)");
        r.refused("write(2, 0, 5)", BEYOND);
    }

    static void p41_write__BEYOND_no_such_row_ahead_of_MISSING(Run r) {
        r.refused("write(4, 0, 0)", BEYOND);
        r.refused("write(-1, -1, 0)", BEYOND);
    }

    static void p41_write__MISSING_ahead_of_BEYOND_no_such_number(Run r) {
        r.refused("write(0, -1, 0)", MISSING);
        r.refused("write(0, 40, 0)", MISSING);
    }

    /** Asks, by a stack of just that light, if the row's number reads as v; what is below 0 is never seen. */
    private static void reads(Run r, int s, int v) {
        r.lamp(v, 0);
        r.due("judge(" + s + ", 0)", 0);
    }

    private static void neverSeen(Run r, int s, int v) {
        r.lamp(v, 0);
        r.due("judge(" + s + ", 0)", 1);
        r.due("from(" + s + ", 1)", 0);
    }

    static void p41_write__8_bits_with_their_sign(Run r) {
        r.sheets(10);
        row(r, 0, 8, 127);
        reads(r, 0, 127);
        r.due("write(0, 0, 128)", 1);
        neverSeen(r, 0, 128);
        r.due("write(0, 0, 255)", 1);
        neverSeen(r, 0, 255);
        r.due("write(0, 0, 256)", 1);
        reads(r, 0, 0);
        r.due("write(0, 0, 263)", 1);
        reads(r, 0, 7);
        r.due("write(0, 0, -1)", 1);
        neverSeen(r, 0, 255);
        r.due("write(0, 0, -128)", 1);
        neverSeen(r, 0, 128);
        r.due("write(0, 0, -129)", 1);
        reads(r, 0, 127);
        r.due("write(0, 0, -249)", 1);
        reads(r, 0, 7);
    }

    static void p41_write__16_bits_with_their_sign(Run r) {
        r.sheets(10);
        row(r, 1, 16, 128);
        reads(r, 1, 128);
        r.due("write(1, 0, 255)", 1);
        reads(r, 1, 255);
        r.due("write(1, 0, 1000)", 1);
        reads(r, 1, 1000);
        r.due("write(1, 0, 65535)", 1);
        neverSeen(r, 1, 1000);
        r.due("write(1, 0, 65536)", 1);
        reads(r, 1, 0);
        r.due("write(1, 0, 65543)", 1);
        reads(r, 1, 7);
        r.due("write(1, 0, -64536)", 1);
        reads(r, 1, 1000);
        r.due("write(1, 0, -1)", 1);
        neverSeen(r, 1, 1);
        r.due("write(1, 0, " + MIN + ")", 1);
        reads(r, 1, 0);
    }

    static void p41_write__32_bits_with_their_sign(Run r) {
        r.sheets(10);
        row(r, 2, 32, 1000);
        reads(r, 2, 1000);
        for (int v : new int[] {256, 65536, 65543, MIN, MAX, -1, 1 << 30}) {
            r.due("write(2, 0, " + v + ")", 1);
            neverSeen(r, 2, v & 255);
        }
    }

    static void p41_write__one_number_alone(Run r) {
        r.lamp(0, -1);
        row(r, 0, 8, 0, 0, 0);
        r.does("write(0, 2, 1)");
        r.due("judge(0, 0)", 3);
        r.does("write(0, 1, 1)");
        r.due("judge(0, 0)", 2);
        r.does("write(0, 0, 1)");
        r.due("judge(0, 0)", 1);
    }

    // ---- 42: copy

    static void p42_copy__BEYOND_rows_0_to_3_either(Run r) {
        for (int s = 0; s < 4; s++) {
            row(r, s, 8, s + 1);
        }
        r.bounds("copy(#, 0, 1, 0, 1)", 0, 3);
        r.bounds("copy(1, 0, #, 0, 1)", 0, 3);
    }

    static void p42_copy__MISSING_either(Run r) {
        row(r, 0, 8, 1);
        r.refused("copy(0, 0, 1, 0, 1)", MISSING);
        r.refused("copy(1, 0, 0, 0, 1)", MISSING);
        r.refused("copy(1, 0, 2, 0, 0)", MISSING);
        row(r, 1, 8, 2);
        r.due("copy(1, 0, 0, 0, 1)", 1);
    }

    static void p42_copy__KIND_not_of_as_many_bits(Run r) {
        row(r, 0, 8, 1);
        row(r, 1, 16, 2);
        row(r, 2, 32, 3);
        for (int s = 0; s < 3; s++) {
            for (int t = 0; t < 3; t++) {
                if (s == t) {
                    r.due("copy(" + s + ", 0, " + t + ", 0, 1)", 1);
                } else {
                    r.refused("copy(" + s + ", 0, " + t + ", 0, 1)", KIND);
                }
            }
        }
        r.refused("copy(0, 0, 1, 0, 0)", KIND);
    }

    /** Row 0 has five numbers, row 1 three, both of 8 bits. */
    private static void fiveAndThree(Run r) {
        row(r, 0, 8, 1, 2, 3, 4, 5);
        row(r, 1, 8, 7, 8, 9);
    }

    static void p42_copy__BEYOND_the_first_has_not_so_many(Run r) {
        fiveAndThree(r);
        r.refused("copy(0, 3, 1, 0, 3)", BEYOND);
        r.refused("copy(0, 5, 1, 0, 1)", BEYOND);
        r.refused("copy(1, 1, 0, 0, 3)", BEYOND);
        r.refused("copy(0, 6, 1, 0, 0)", BEYOND);
        r.due("copy(0, 2, 1, 0, 3)", 3);
        r.due("copy(0, 4, 1, 0, 1)", 1);
        r.due("copy(0, 5, 1, 0, 0)", 0);
    }

    static void p42_copy__BEYOND_the_other_has_not_so_many(Run r) {
        fiveAndThree(r);
        r.refused("copy(0, 0, 1, 1, 3)", BEYOND);
        r.refused("copy(0, 0, 1, 3, 1)", BEYOND);
        r.refused("copy(0, 0, 1, 0, 4)", BEYOND);
        r.refused("copy(0, 0, 1, 4, 0)", BEYOND);
        r.due("copy(0, 0, 1, 0, 3)", 3);
        r.due("copy(0, 0, 1, 2, 1)", 1);
        r.due("copy(0, 0, 1, 3, 0)", 0);
    }

    static void p42_copy__BEYOND_from_to_or_n_below_0(Run r) {
        fiveAndThree(r);
        r.refused("copy(0, -1, 1, 0, 1)", BEYOND);
        r.refused("copy(0, 0, 1, -1, 1)", BEYOND);
        r.refused("copy(0, 0, 1, 0, -1)", BEYOND);
        r.refused("copy(0, 1, 1, 1, -1)", BEYOND);
        r.refused("copy(0, -1, 1, 0, 0)", BEYOND);
        r.refused("copy(0, 0, 1, -1, 0)", BEYOND);
        r.refused("copy(0, " + MIN + ", 1, " + MIN + ", " + MIN + ")", BEYOND);
    }

    static void p42_copy__BEYOND_sums_that_would_wrap_around(Run r) {
        fiveAndThree(r);
        r.refused("copy(0, " + MAX + ", 1, 0, 1)", BEYOND);
        r.refused("copy(0, 0, 1, " + MAX + ", 1)", BEYOND);
        r.refused("copy(0, 1, 1, 1, " + MAX + ")", BEYOND);
        r.refused("copy(0, " + MAX + ", 1, " + MAX + ", " + MAX + ")", BEYOND);
        r.refused("copy(0, " + MIN + ", 1, 0, " + MIN + ")", BEYOND);
        r.refused("copy(0, " + MAX + ", 1, 0, 0)", BEYOND);
    }

    static void p42_copy__BEYOND_no_such_row_ahead_of_MISSING(Run r) {
        r.refused("copy(4, 0, 0, 0, 1)", BEYOND);
        r.refused("copy(0, 0, 4, 0, 1)", BEYOND);
        r.refused("copy(-1, 0, 0, 0, 1)", BEYOND);
        r.refused("copy(0, 0, -1, 0, 1)", BEYOND);
    }

    static void p42_copy__MISSING_ahead_of_KIND_and_of_BEYOND_numbers(Run r) {
        row(r, 0, 8, 1);
        r.refused("copy(0, 0, 1, 0, 1)", MISSING);
        r.refused("copy(0, -1, 1, 0, 1)", MISSING);
        r.refused("copy(2, 0, 0, 0, -1)", MISSING);
    }

    static void p42_copy__KIND_ahead_of_BEYOND_numbers(Run r) {
        row(r, 0, 8, 1);
        row(r, 1, 16, 1);
        r.refused("copy(0, -1, 1, 0, 1)", KIND);
        r.refused("copy(0, 0, 1, 2, 1)", KIND);
        r.refused("copy(0, 0, 1, 0, -1)", KIND);
    }

    static void p42_copy__none_and_all_40(Run r) {
        r.sheets(10);
        r.does("row(0, 8, 40)", "row(1, 8, 40)", "write(0, 0, 3)", "write(0, 39, 9)");
        r.reads("copy(0, 40, 1, 40, 0)", 0);
        r.refused("copy(0, 0, 1, 1, 40)", BEYOND);
        r.refused("copy(0, 0, 1, 0, 41)", BEYOND);
        r.due("copy(0, 0, 1, 0, 40)", 40);
        r.does("row(2, 8, 2)", "copy(1, 0, 2, 0, 1)", "copy(1, 39, 2, 1, 1)");
        r.due("from(2, 0)", 2);
        r.stackIs(0, 3, 9);
    }

    static void p42_copy__as_they_all_were_within_a_row(Run r) {
        r.sheets(10);
        row(r, 0, 16, 1, 2, 3, 4, 5);
        row(r, 1, 16, 1, 2, 3, 4, 5);
        r.due("copy(0, 0, 0, 1, 4)", 4);
        r.due("from(0, 0)", 5);
        r.stackIs(0, 1, 1, 2, 3, 4);
        r.due("copy(1, 1, 1, 0, 4)", 4);
        r.due("from(1, 1)", 5);
        r.stackIs(1, 2, 3, 4, 5, 5);
        r.reads("copy(0, 0, 0, 0, 5)", 5);
    }

    // ---- 43: from

    static void p43_from__BEYOND_rows_0_to_3(Run r) {
        r.sheets(1);
        for (int s = 0; s < 4; s++) {
            row(r, s, 8, 0);
        }
        r.bounds("from(#, 0)", 0, 3);
    }

    static void p43_from__BEYOND_STACKS_0_to_3(Run r) {
        r.sheets(1);
        row(r, 0, 8, 0);
        r.bounds("from(0, #)", 0, 3);
    }

    static void p43_from__MISSING(Run r) {
        r.sheets(1);
        r.refused("from(0, 0)", MISSING);
    }

    static void p43_from__the_findings_in_their_order(Run r) {
        r.refused("from(4, 4)", BEYOND);
        r.refused("from(0, 4)", MISSING);
        r.refused("from(0, -1)", MISSING);
        row(r, 0, 8, 0);
        r.refused("from(0, 4)", BEYOND);
    }

    static void p43_from__no_numbers_and_no_SHEETS(Run r) {
        r.does("row(0, 8, 0)", "row(1, 8, 1)");
        r.reads("from(0, 0)", 0);
        r.reads("from(1, 0)", 0);
    }

    static void p43_from__ends_at_the_first_that_is_none(Run r) {
        r.sheets(3);
        row(r, 0, 32, 2, 3, 0);
        r.due("from(0, 0)", 1);
        r.stackIs(0, 2);
        row(r, 0, 8, 2, 0, -1, 0);
        r.due("from(0, 1)", 2);
        r.stackIs(1, 2, 0);
        row(r, 0, 8, 3, 0);
        r.reads("from(0, 2)", 0);
        row(r, 0, 32, 256, 0);
        r.reads("from(0, 2)", 0);
        row(r, 0, 32, MIN, 0);
        r.reads("from(0, 2)", 0);
    }

    static void p43_from__the_tenth_SHEET(Run r) {
        r.sheets(10);
        row(r, 0, 8, 9, 10);
        r.due("from(0, 3)", 1);
        r.stackIs(3, 9);
    }

    static void p43_from__ends_where_there_is_no_room(Run r) {
        r.sheets(10);
        row(r, 0, 16, 1, 2, 3, 4, 5, 6, 7);
        r.due("from(0, 0)", 6);
        r.stackIs(0, 1, 2, 3, 4, 5, 6);
        r.reads("from(0, 0)", 0);
        r.does("off(0)");
        r.due("from(0, 0)", 1);
        r.stackIs(0, 1, 2, 3, 4, 5, 1);
    }

    static void p43_from__all_that_fit_just(Run r) {
        r.sheets(2);
        row(r, 0, 16, 1, 0, 1);
        r.lays(2, 0, 0, 0);
        r.due("from(0, 2)", 3);
        r.stackIs(2, 0, 0, 0, 1, 0, 1);
    }

    // ---- 44: judge

    static void p44_judge__BEYOND_rows_0_to_3(Run r) {
        for (int s = 0; s < 4; s++) {
            row(r, s, 16, 500);
        }
        r.bounds("judge(#, 0)", 0, 3);
    }

    static void p44_judge__BEYOND_STACKS_0_to_3(Run r) {
        row(r, 0, 16, 500);
        r.bounds("judge(0, #)", 0, 3);
    }

    static void p44_judge__MISSING(Run r) {
        r.refused("judge(3, 0)", MISSING);
    }

    static void p44_judge__the_findings_in_their_order(Run r) {
        r.refused("judge(4, 4)", BEYOND);
        r.refused("judge(0, 4)", MISSING);
        r.refused("judge(0, -1)", MISSING);
        row(r, 0, 8, 0);
        r.refused("judge(0, 4)", BEYOND);
    }

    static void p44_judge__no_numbers(Run r) {
        r.does("row(0, 8, 0)");
        r.reads("judge(0, 0)", 0);
    }

    /** All 12 tilts of light at 11. */
    private static void twelve(Run r, int... more) {
        int[] seen = {933, 750, 500, 250, 67, 0, 67, 250, 500, 750, 933, 1000};
        int[] all = new int[12 + more.length];
        System.arraycopy(seen, 0, all, 0, 12);
        System.arraycopy(more, 0, all, 12, more.length);
        row(r, 0, 16, all);
        r.lamp(1000, 11);
    }

    static void p44_judge__0_if_all_12_are(Run r) {
        twelve(r);
        r.reads("judge(0, 0)", 0);
    }

    static void p44_judge__the_first_and_the_last_that_is_not(Run r) {
        twelve(r);
        r.does("write(0, 11, 999)");
        r.reads("judge(0, 0)", 12);
        r.does("write(0, 5, 1)");
        r.reads("judge(0, 0)", 6);
        r.does("write(0, 0, 934)");
        r.reads("judge(0, 0)", 1);
    }

    static void p44_judge__a_13th_for_which_there_is_no_TILT(Run r) {
        twelve(r, 933);
        r.reads("judge(0, 0)", 13);
        r.does("write(0, 11, 0)");
        r.reads("judge(0, 0)", 12);
    }

    static void p44_judge__40_numbers(Run r) {
        r.does("row(0, 8, 40)", "lamp(0, 0)");
        r.reads("judge(0, 0)", 13);
    }

    static void p44_judge__from_the_front(Run r) {
        r.does("sheet(2, 1, 0)", "lamp(1, 0)");
        r.lays(3, 0);
        row(r, 0, 16, 933, 1000);
        r.reads("judge(0, 3)", 0);
        r.reads("judge(0, 0)", 1);
    }
}
