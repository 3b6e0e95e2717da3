/** Boundary cases of promises 12 to 18. */
final class SeenBounds {
    private static final int BEYOND = Check.BEYOND;
    private static final int EVERY_TILT = 4095;
    private static final int EVERY_HOUR = 16777215;

    private SeenBounds() {
    }

    /** Stack 0 is empty, 1 has a filter, 2 six turners that go half round, 3 a smoke that lets nothing through. */
    private static void four(Run r) {
        r.does("sheet(1, 3, 1000)", "sheet(2, 1, 1000)", "sheet(4, 0, 0)");
        r.lays(1, 0);
        r.lays(2, 1, 1, 1, 1, 1, 1);
        r.lays(3, 2);
    }

    // ---- 12: through

    static void p12_through__BEYOND_STACKS_0_to_3(Run r) {
        r.bounds("through(#, false, 0)", 0, 3);
        r.bounds("through(#, true, 1)", 0, 3);
    }

    static void p12_through__BEYOND_what_0_and_1(Run r) {
        r.bounds("through(0, false, #)", 0, 1);
        r.bounds("through(3, true, #)", 0, 1);
    }

    static void p12_through__an_empty_STACK_is_THE_LAMP(Run r) {
        r.reads("through(0, false, 0)", 1000);
        r.reads("through(0, false, 1)", -1);
        r.reads("through(0, true, 0)", 1000);
        r.reads("through(0, true, 1)", -1);
        r.lamp(0, 11);
        r.reads("through(3, true, 0)", 0);
        r.reads("through(3, false, 1)", 11);
    }

    static void p12_through__a_STACK_of_one_and_of_six(Run r) {
        four(r);
        r.lamp(1000, 11);
        r.reads("through(1, false, 0)", 250);
        r.reads("through(1, false, 1)", 3);
        r.reads("through(1, true, 0)", 750);
        r.reads("through(1, true, 1)", 9);
        r.reads("through(2, false, 1)", 5);
        r.reads("through(2, true, 1)", 5);
        r.reads("through(3, false, 0)", 0);
        r.reads("through(3, false, 1)", 11);
    }

    // ---- 13: seen

    static void p13_seen__BEYOND_STACKS_0_to_3(Run r) {
        r.bounds("seen(#, false, 0)", 0, 3);
        r.bounds("seen(#, true, 11)", 0, 3);
    }

    static void p13_seen__BEYOND_TILT_0_to_11(Run r) {
        r.bounds("seen(0, false, #)", 0, 11);
        r.bounds("seen(3, true, #)", 0, 11);
    }

    static void p13_seen__TILTS_0_and_11(Run r) {
        four(r);
        r.lamp(1000, 11);
        r.reads("seen(0, false, 0)", 933);
        r.reads("seen(0, true, 11)", 1000);
        r.reads("seen(1, false, 0)", 125);
        r.reads("seen(1, false, 11)", 62);
        r.reads("seen(1, true, 0)", 375);
        r.reads("seen(1, true, 11)", 562);
        r.reads("seen(2, false, 11)", 0);
        r.reads("seen(3, false, 11)", 0);
    }

    // ---- 14: bright

    static void p14_bright__BEYOND_STACKS_0_to_3(Run r) {
        r.bounds("bright(#, false)", 0, 3);
        r.bounds("bright(#, true)", 0, 3);
    }

    static void p14_bright__the_least_TILT_of_several_MIXED(Run r) {
        r.reads("bright(0, false)", 0);
        r.reads("bright(0, true)", 0);
    }

    static void p14_bright__the_least_TILT_of_several_no_SHARE(Run r) {
        four(r);
        r.lamp(1000, 5);
        r.reads("bright(3, false)", 0);
        r.lamp(0, 11);
        r.reads("bright(0, false)", 0);
    }

    static void p14_bright__TILTS_0_and_11(Run r) {
        r.lamp(1, 0);
        r.reads("bright(0, false)", 0);
        r.does("lamp(1, 1)");
        r.reads("bright(0, false)", 1);
        r.does("lamp(1, 11)");
        r.reads("bright(0, true)", 11);
    }

    static void p14_bright__from_BEHIND_or_not(Run r) {
        four(r);
        r.reads("bright(1, false)", 3);
        r.reads("bright(1, true)", 9);
    }

    // ---- 15: dark

    static void p15_dark__BEYOND_STACKS_0_to_3(Run r) {
        r.bounds("dark(#, false)", 0, 3);
        r.bounds("dark(#, true)", 0, 3);
    }

    static void p15_dark__the_least_TILT_of_several_MIXED(Run r) {
        r.reads("dark(0, false)", 0);
    }

    static void p15_dark__the_least_TILT_of_several_no_SHARE(Run r) {
        r.lamp(0, 5);
        r.reads("dark(0, true)", 0);
    }

    static void p15_dark__the_least_TILT_of_several_that_are_cut_to_0(Run r) {
        r.lamp(15, 0);
        r.reads("dark(0, false)", 6);
        r.does("lamp(0, 14)");
        r.reads("dark(0, false)", 5);
        r.does("lamp(1, 4)");
        r.reads("dark(0, false)", 9);
        r.does("lamp(1, 6)");
        r.reads("dark(0, false)", 0);
        r.does("lamp(1, 7)");
        r.reads("dark(0, false)", 0);
        r.does("lamp(1, 8)");
        r.reads("dark(0, false)", 1);
    }

    static void p15_dark__TILTS_0_and_11(Run r) {
        r.does("lamp(1, 6)");
        r.reads("dark(0, false)", 0);
        r.does("lamp(1, 5)");
        r.reads("dark(0, true)", 11);
    }

    static void p15_dark__from_BEHIND_or_not(Run r) {
        four(r);
        r.reads("dark(1, false)", 9);
        r.reads("dark(1, true)", 3);
    }

    // ---- 16: alike

    static void p16_alike__BEYOND_STACKS_0_to_3(Run r) {
        r.bounds("alike(#, 0, 0)", 0, 3);
        r.bounds("alike(0, #, 0)", 0, 3);
    }

    static void p16_alike__BEYOND_haze_0_to_1000(Run r) {
        r.bounds("alike(0, 1, #)", 0, 1000);
    }

    /** What is seen of 1000 and of 900 differs by 100, 94, 75, 50, 25, 7, 0. */
    static void p16_alike__it_differs_by_haze_at_most(Run r) {
        r.smokes(900);
        r.lays(1, 0);
        r.lamp(1000, 0);
        int[][] due = {{0, 1 << 6}, {6, 1 << 6}, {7, 7 << 5}, {24, 7 << 5}, {25, 31 << 4}, {93, 0x7fc}, {94, 0xffe},
            {99, 0xffe}, {100, EVERY_TILT}, {1000, EVERY_TILT}};
        for (int[] d : due) {
            r.reads("alike(0, 1, " + d[0] + ")", d[1]);
            r.due("alike(1, 0, " + d[0] + ")", d[1]);
        }
    }

    static void p16_alike__haze_1000_is_all_and_999_is_not(Run r) {
        r.smokes(0);
        r.lays(1, 0);
        r.lamp(1000, 11);
        r.reads("alike(0, 1, 1000)", EVERY_TILT);
        r.reads("alike(0, 1, 999)", 0x7ff);
        r.reads("alike(1, 0, 999)", 0x7ff);
    }

    static void p16_alike__a_STACK_and_itself_and_two_empty_ones(Run r) {
        r.reads("alike(0, 0, 0)", EVERY_TILT);
        r.reads("alike(2, 3, 0)", EVERY_TILT);
    }

    static void p16_alike__from_the_front(Run r) {
        r.does("sheet(2, 2, 0)", "lamp(1, 0)");
        r.lays(0, 0);
        r.reads("alike(0, 1, 0)", 1 << 1 | 1 << 7);
    }

    // ---- 17: sky

    static void p17_sky__BEYOND_HOUR_0_to_23(Run r) {
        r.bounds("sky(#, 0)", 0, 23);
        r.bounds("sky(#, 1)", 0, 23);
    }

    static void p17_sky__BEYOND_what_0_and_1(Run r) {
        r.bounds("sky(0, #)", 0, 1);
        r.bounds("sky(12, #)", 0, 1);
    }

    static void p17_sky__from_6_to_17_SHARE_1000_else_100(Run r) {
        int[][] due = {{0, 100}, {5, 100}, {6, 1000}, {7, 1000}, {16, 1000}, {17, 1000}, {18, 100}, {23, 100}};
        for (int[] d : due) {
            r.reads("sky(" + d[0] + ", 0)", d[1]);
        }
    }

    static void p17_sky__SLANT_HOUR_less_3_round_else_MIXED(Run r) {
        int[][] due = {{0, -1}, {5, -1}, {6, 3}, {13, 10}, {14, 11}, {15, 0}, {16, 1}, {17, 2}, {18, -1}, {23, -1}};
        for (int[] d : due) {
            r.reads("sky(" + d[0] + ", 1)", d[1]);
        }
    }

    // ---- 18: hours

    static void p18_hours__BEYOND_STACKS_0_to_3(Run r) {
        r.bounds("hours(#, 0, 0)", 0, 3);
    }

    static void p18_hours__BEYOND_TILT_0_to_11(Run r) {
        r.bounds("hours(0, #, 0)", 0, 11);
    }

    static void p18_hours__BEYOND_v_0_to_1000(Run r) {
        r.bounds("hours(0, 0, #)", 0, 1000);
        r.reads("hours(0, 0, 0)", 1 << 9);
        r.reads("hours(0, 0, 1000)", 1 << 15);
    }

    static void p18_hours__6_and_17_are_day(Run r) {
        r.reads("hours(0, 3, 1000)", 1 << 6);
        r.reads("hours(0, 2, 1000)", 1 << 17);
        r.reads("hours(0, 11, 1000)", 1 << 14);
    }

    static void p18_hours__0_to_5_and_18_to_23_are_night(Run r) {
        r.reads("hours(0, 0, 49)", 0);
        r.reads("hours(0, 0, 50)", 0xfc003f);
        r.reads("hours(0, 11, 51)", 0);
    }

    static void p18_hours__all_24_and_none(Run r) {
        four(r);
        r.reads("hours(3, 0, 0)", EVERY_HOUR);
        r.reads("hours(3, 11, 1)", 0);
    }

    static void p18_hours__of_the_SKY_not_of_THE_LAMP(Run r) {
        four(r);
        r.lamp(0, 5);
        r.reads("hours(1, 3, 1000)", 1 << 6);
        r.reads("hours(2, 3, 1000)", 1 << 12);
    }

    static void p18_hours__from_the_front(Run r) {
        r.does("sheet(2, 1, 0)");
        r.lays(1, 0);
        r.reads("hours(1, 0, 1000)", 1 << 14);
    }
}
