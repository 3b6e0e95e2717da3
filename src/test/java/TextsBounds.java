/** Boundary cases of promises 35 to 37, and of what the Terms say of texts. */
final class TextsBounds {
    private static final int BEYOND = Check.BEYOND;
    private static final int FULL = Check.FULL;
    private static final String BLANKS = " ".repeat(120);

    private TextsBounds() {
    }

    // ---- 35: feed

    static void p35_feed__BEYOND_n_1_to_4(Run r) {
        r.bounds("feed(0, #)", 1, 4);
    }

    static void p35_feed__how_many_it_has_and_any_number(Run r) {
        r.due("feed(-2147483648, 1)", 1);
        r.due("feed(2147483647, 2)", 3);
        r.due("feed(-1, 3)", 6);
        r.due("feed(0, 4)", 10);
        r.due("count(4)", 10);
    }

    static void p35_feed__the_n_lowest_bytes_the_highest_first(Run r) {
        r.due("feed(" + ('l' << 24 | 'o' << 16 | 'a' << 8 | 'd') + ", 4)", 4);
        r.due("feed(" + ('x' << 24 | ' ' << 16 | ' ' << 8 | ' ') + ", 3)", 7);
        r.due("feed(" + ('x' << 24 | 'x' << 16 | ' ' << 8 | '1') + ", 2)", 9);
        r.due("feed(" + (255 << 24 | 'x' << 8 | '0') + ", 1)", 10);
        r.due("text()", 1);
        r.due("count(3)", 10);
    }

    static void p35_feed__FULL_more_than_120_bytes(Run r) {
        r.feeds(BLANKS.substring(0, 117));
        r.refused("feed(538976288, 4)", FULL);
        r.due("feed(538976288, 3)", 120);
        for (int n = 1; n <= 4; n++) {
            r.refused("feed(538976288, " + n + ")", FULL);
        }
    }

    static void p35_feed__FULL_at_118_and_119(Run r) {
        r.feeds(BLANKS.substring(0, 118));
        r.refused("feed(538976288, 3)", FULL);
        r.does("feed(32, 1)");
        r.refused("feed(538976288, 2)", FULL);
        r.due("feed(538976288, 1)", 120);
    }

    static void p35_feed__the_120th_of_four(Run r) {
        r.feeds(BLANKS.substring(0, 116));
        r.due("feed(538976288, 4)", 120);
        r.refused("feed(0, 1)", FULL);
    }

    static void p35_feed__BEYOND_ahead_of_FULL(Run r) {
        r.feeds(BLANKS);
        r.refused("feed(0, 0)", BEYOND);
        r.refused("feed(0, 5)", BEYOND);
        r.refused("feed(0, -1)", BEYOND);
        r.refused("feed(0, 2147483647)", BEYOND);
    }

    // ---- 36: wipe

    static void p36_wipe__an_empty_TAPE(Run r) {
        r.reads("wipe()", 0);
    }

    static void p36_wipe__a_full_TAPE(Run r) {
        r.feeds(BLANKS);
        r.due("wipe()", 120);
        r.due("wipe()", 0);
        r.due("count(4)", 0);
        r.text("load 7", 1);
        r.due("count(3)", 7);
    }

    // ---- 37: how long a text is

    static void p37_text__an_empty_TAPE(Run r) {
        r.fault("", 0);
    }

    static void p37_text__blanks_alone_end_too_early(Run r) {
        r.fault(" ", 1);
        r.fault(BLANKS, 120);
    }

    static void p37_text__of_120_bytes(Run r) {
        r.text("load1;".repeat(19) + "load 5", 20);
        r.due("count(3)", 5);
        r.text("load 6" + BLANKS.substring(6), 1);
        r.due("count(3)", 6);
    }

    static void p37_text__FAULT_at_the_first_and_at_the_last_place(Run r) {
        r.fault("?", 0);
        r.fault("load 5" + BLANKS.substring(7) + "?", 119);
        r.fault("load1;".repeat(20), 120);
    }

    static void p37_text__how_many_ITEMS(Run r) {
        r.text("load 1", 1);
        r.text("load 1;load 2", 2);
        r.text("sheet;".repeat(9) + "sheet", 10);
    }

    static void p37_text__THE_TAPE_is_empty_then(Run r) {
        r.text("load 1", 1);
        r.due("wipe()", 0);
        r.text("load", -5);
        r.due("wipe()", 0);
        r.due("text()", -1);
    }

    // ---- 37: tokens

    static void p37_tokens__each_as_long_as_can_be(Run r) {
        r.sheets(2);
        r.text("load11", 1);
        r.due("count(3)", 11);
        r.text("lamp100slant10;load1;stack0 1", 3);
        r.lampIs(100, 10);
        r.fault("stack 0 01 11", 11);
        r.fault("stack01", 7);
        r.fault("sheetturn 1", 0);
        r.fault("loadload 1", 0);
        r.fault("lamp 1 mixedslant 1", 7);
    }

    static void p37_tokens__letters_a_to_z(Run r) {
        r.fault("loada 1", 0);
        r.fault("loadz 1", 0);
        r.fault("aload 1", 0);
        r.fault("zload 1", 0);
        r.fault("load` 1", 4);
        r.fault("load{ 1", 4);
        r.fault("loadA 1", 4);
        r.fault("loadZ 1", 4);
        r.fault("Load 1", 0);
    }

    static void p37_tokens__digits_0_to_9(Run r) {
        r.text("lamp 109 mixed", 1);
        r.text("lamp 28 slant 7", 1);
        r.text("lamp 345 slant 6", 1);
        r.lampIs(345, 6);
        r.fault("load 1/", 6);
        r.fault("load 1:", 6);
        r.fault("load /1", 5);
        r.fault("load :1", 5);
    }

    static void p37_tokens__9999_at_most(Run r) {
        r.fault("sheet pass 9999", 11);
        r.fault("sheet pass 10000", 11);
        r.fault("sheet pass 10001", 11);
        r.fault("load 2147483648", 5);
        r.fault("load 4294967297", 5);
        r.fault("load 18446744073709551617", 5);
        r.fault("load 99999999999999999999999999999999", 5);
    }

    static void p37_tokens__noughts_ahead(Run r) {
        r.text("load 0011", 1);
        r.due("count(3)", 11);
        r.text("load " + "0".repeat(114) + "7", 1);
        r.due("count(3)", 7);
        r.fault("load 0012", 5);
    }

    static void p37_tokens__blanks_none_one_and_many(Run r) {
        r.text("load1;load2", 2);
        r.text(" load 3 ; load 4 ", 2);
        r.text("   load   5   ;   load   6   ", 2);
        r.due("count(3)", 6);
    }

    static void p37_tokens__a_byte_that_begins_none(Run r) {
        for (char wrong : new char[] {0, 9, 10, 13, 31, 33, 44, 45, 58, 60, 64, 91, 95, 96, 123, 127, 128, 160, 223, 255}) {
            Run one = r.again();
            one.fault("load" + wrong + "1", 4);
            one.fault("load 1;" + wrong, 7);
        }
    }

    // ---- 37: items

    static void p37_items__SIGN_between_two_alone(Run r) {
        r.fault(";", 0);
        r.fault("; load 1", 0);
        r.fault("load 1;", 7);
        r.fault("load 1 ;  ", 10);
        r.fault("load 1;;load 2", 7);
        r.fault("load 1 load 2", 7);
    }

    static void p37_items__each_KIND_by_its_WORD(Run r) {
        r.text("sheet;filter;turner;half;smoke;horn;strain", 7);
        for (int kind = 0; kind < 7; kind++) {
            r.sheetIs(kind, kind, 0, 1000);
        }
    }

    static void p37_items__another_WORD(Run r) {
        r.fault("shee", 0);
        r.fault("sheets", 0);
        r.fault("load 1; glass turn 3", 8);
        r.fault("turn 3", 0);
        r.fault("mixed", 0);
        r.fault("sheet tur 3", 6);
        r.fault("sheet turns 3", 6);
        r.fault("sheet mixed", 6);
        r.fault("lamp 5 turn 3", 7);
        r.fault("lamp 5 slants 3", 7);
        r.fault("load turn", 5);
        r.fault("5", 0);
    }

    /** Each word with another first or last letter, with one more and with one less. */
    static void p37_items__each_letter_of_a_WORD_counts(Run r) {
        for (String word : new String[] {"sheet", "filter", "turner", "half", "smoke", "horn", "strain"}) {
            wrongWords(r, "", word, "");
        }
        wrongWords(r, "", "stack", " 0 0");
        wrongWords(r, "", "lamp", " 0 mixed");
        wrongWords(r, "", "load", " 0");
        wrongWords(r, "half ", "turn", " 0");
        wrongWords(r, "half ", "pass", " 0");
        wrongWords(r, "lamp 0 ", "mixed", "");
        wrongWords(r, "lamp 0 ", "slant", " 0");
    }

    private static void wrongWords(Run r, String ahead, String word, String behind) {
        int last = word.length() - 1;
        String[] wrong = {"x" + word.substring(1), word.substring(0, last) + "x", word + "x", "x" + word, word.substring(0, last),
            word.substring(1), word.charAt(0) + "x" + word.substring(2)};
        for (String other : wrong) {
            Run one = r.another();
            one.sheets(1);
            one.text(ahead + other + behind, -1 - ahead.length());
        }
        Run right = r.another();
        right.sheets(1);
        right.text(ahead + word + behind, 1);
    }

    static void p37_items__turn_0_to_11_0_without(Run r) {
        r.text("half turn 0;half turn 11;half", 3);
        r.sheetIs(0, 3, 0, 1000);
        r.sheetIs(1, 3, 11, 1000);
        r.sheetIs(2, 3, 0, 1000);
        r.fault("half turn 12", 10);
        r.fault("half turn", 9);
        r.fault("half turn;", 9);
        r.fault("half turn pass 3", 10);
        r.fault("half 3", 5);
    }

    static void p37_items__pass_0_to_1000_1000_without(Run r) {
        r.text("horn pass 0;horn pass 1000;horn turn 2 pass 999;horn turn 3", 4);
        r.sheetIs(0, 5, 0, 0);
        r.sheetIs(1, 5, 0, 1000);
        r.sheetIs(2, 5, 2, 999);
        r.sheetIs(3, 5, 3, 1000);
        r.fault("horn pass 1001", 10);
        r.fault("horn pass", 9);
        r.fault("horn pass;", 9);
        r.fault("horn pass turn", 10);
    }

    static void p37_items__turn_ahead_of_pass_each_once(Run r) {
        r.fault("horn pass 1 turn 2", 12);
        r.fault("horn turn 1 turn 2", 12);
        r.fault("horn pass 1 pass 2", 12);
        r.fault("horn turn 1 2", 12);
    }

    static void p37_items__the_10th_SHEET(Run r) {
        r.sheets(9);
        r.text("strain turn 11 pass 7", 1);
        r.sheetIs(9, 6, 11, 7);
    }

    static void p37_items__the_WORD_of_an_11th_SHEET(Run r) {
        r.sheets(10);
        r.fault("sheet", 0);
        r.fault("load 3; strain", 8);
        r.fault("horn turn 12", 0);
        r.fault("horn?", 0);
        r.text("load 3;stack 0 9", 2);
    }

    static void p37_items__an_11th_SHEET_in_one_text(Run r) {
        r.fault("half;".repeat(10) + "half", 50);
        r.due("count(0)", 0);
        r.sheets(8);
        r.fault("half;half;half", 10);
        r.due("count(0)", 8);
        r.text("half;half", 2);
    }

    static void p37_items__stack_0_to_3(Run r) {
        r.sheets(1);
        r.text("stack 0 0;stack 3 0", 2);
        r.stackIs(0, 0);
        r.stackIs(3, 0);
        r.fault("stack 4 0", 6);
        r.fault("stack 9999 0", 6);
        r.fault("stack", 5);
        r.fault("stack;", 5);
        r.fault("stack half", 6);
    }

    static void p37_items__stack_4_though_there_is_such_a_SHEET(Run r) {
        r.sheets(10);
        r.fault("stack 4 0", 6);
        r.fault("stack 9 9", 6);
    }

    static void p37_items__stack_1_to_6_NUMBERS(Run r) {
        r.sheets(6);
        r.text("stack 0 5", 1);
        r.stackIs(0, 5);
        r.text("stack 0 5 4 3 2 1 0", 1);
        r.stackIs(0, 5, 4, 3, 2, 1, 0);
        r.fault("stack 0", 7);
        r.fault("stack 0;", 7);
        r.fault("stack 0 half", 8);
        r.fault("stack 0 5 4 3 2 1 0 0", 20);
        r.fault("stack 0 5 4 3 2 1 0 9", 20);
        r.fault("stack 0 5 half", 10);
    }

    static void p37_items__stack_SHEETS_that_there_are_by_then(Run r) {
        r.fault("stack 0 0", 8);
        r.fault("stack 0 0;half", 8);
        r.text("half;stack 0 0;half;stack 1 1 0", 4);
        r.stackIs(0, 0);
        r.stackIs(1, 1, 0);
        r.fault("stack 0 2", 8);
        r.fault("stack 0 1 2", 10);
        r.fault("half;stack 2 2 3", 15);
        r.sheets(8);
        r.text("stack 3 9", 1);
        r.fault("stack 3 10", 8);
    }

    static void p37_items__stack_is_just_these(Run r) {
        r.sheets(2);
        r.lays(0, 0, 0, 0, 0, 0, 0);
        r.text("stack 0 1 1", 1);
        r.stackIs(0, 1, 1);
        r.text("stack 0 0;stack 0 1", 2);
        r.stackIs(0, 1);
    }

    static void p37_items__lamp_SHARE_0_to_1000(Run r) {
        r.text("lamp 0 mixed", 1);
        r.lampIs(0, -1);
        r.text("lamp 1000 mixed", 1);
        r.lampIs(1000, -1);
        r.fault("lamp 1001 mixed", 5);
        r.fault("lamp mixed", 5);
        r.fault("lamp", 4);
        r.fault("lamp;", 4);
    }

    static void p37_items__lamp_mixed_or_slant_0_to_11(Run r) {
        r.text("lamp 7 slant 0", 1);
        r.lampIs(7, 0);
        r.text("lamp 7 slant 11", 1);
        r.lampIs(7, 11);
        r.text("lamp 7 mixed", 1);
        r.lampIs(7, -1);
        r.fault("lamp 7 slant 12", 13);
        r.fault("lamp 7 slant", 12);
        r.fault("lamp 7 slant mixed", 13);
        r.fault("lamp 7 mixed 3", 13);
        r.fault("lamp 7", 6);
        r.fault("lamp 7;", 6);
        r.fault("lamp 7 3", 7);
    }

    static void p37_items__load_0_to_11(Run r) {
        r.text("load 11", 1);
        r.due("count(3)", 11);
        r.text("load 0", 1);
        r.due("count(3)", 0);
        r.fault("load 12", 5);
        r.fault("load", 4);
        r.fault("load ", 5);
        r.fault("load;", 4);
        r.fault("load 1 1", 7);
    }

    // ---- 37: what a text does

    static void p37_text__nothing_changes_with_a_FAULT_at_its_end(Run r) {
        r.does("sheet(1, 2, 3)", "load(4)", "lamp(1, 5)", "look(6, 7)", "hold(8, 0)", "seed(9)", "image()");
        r.lays(2, 0, 0);
        r.fault("half;load 9;lamp 3 slant 3;stack 2 1;stack 0 0;", 47);
        r.fault("half;load 9;lamp 3 slant 3;stack 2 1;stack 0 2", 45);
    }

    static void p37_text__the_first_of_several_FAULTS(Run r) {
        r.fault("load 12;glass", 5);
        r.fault("load ?;load 12", 5);
        r.fault("lamp 1001 slant 12", 5);
        r.fault("stack 4 0;load", 6);
    }

    static void p37_text__item_by_item(Run r) {
        r.text("load 3;lamp 5 mixed;half turn 1;load 4;lamp 6 slant 2;half turn 2;stack 0 1 0", 7);
        r.due("count(3)", 4);
        r.lampIs(6, 2);
        r.sheetIs(0, 3, 1, 1000);
        r.sheetIs(1, 3, 2, 1000);
        r.stackIs(0, 1, 0);
    }

    static void p37_text__what_it_does_not_tell_stays(Run r) {
        r.does("sheet(1, 2, 3)", "look(6, 7)", "hold(8, 0)", "seed(9)", "image()", "row(0, 8, 3)", "load(4)", "lamp(1, 5)");
        r.lays(2, 0, 0);
        String before = r.state();
        r.text("load 4", 1);
        r.same("text 'load 4'", before);
        r.text("lamp 1000 slant 5;stack 2 0 0", 2);
        r.same("text 'lamp ..'", before);
    }

    static void p37_text__a_new_one_after_a_FAULT(Run r) {
        r.fault("half;half;load 12", 15);
        r.text("half", 1);
        r.due("count(0)", 1);
        r.sheetIs(0, 3, 0, 1000);
    }
}
