/** Boundary cases of promises 6 to 8: pan, child, as. */
final class EdgesOfPansAndChildren {
    private static final int NONE = SkimmedSons.NONE, UNKNOWN = SkimmedSons.UNKNOWN, OUTSIDE = SkimmedSons.OUTSIDE;
    private static final int[] FAR_OFF = {Integer.MIN_VALUE, -1000, 1000, Integer.MAX_VALUE};

    private EdgesOfPansAndChildren() {
    }

    // ---- 6, pan

    static void p06_pan_0_is_the_least_and_minus_1_unknown(Check check) {
        SkimmedSons sons = Check.read("w12;c,c");
        check.due("pan(0, 3)", sons.pan(0, 3), 2);
        check.due("pan(-1, 3)", sons.pan(-1, 3), UNKNOWN);
    }

    static void p06_the_last_pan_of_one_two_or_three_is_known_the_next_unknown(Check check) {
        String[] dairies = {"w11;c,c,c,c,c", "w11,w12;c,c,c,c,c", "w11,w12,w13;c,c"};
        for (int pans = 1; pans <= 3; pans++) {
            SkimmedSons sons = Check.read(dairies[pans - 1]);
            check.due("the last of " + pans, sons.pan(pans - 1, 3), pans);
            check.due("behind the last of " + pans, sons.pan(pans, 3), UNKNOWN);
        }
    }

    static void p06_pans_far_off_are_unknown(Check check) {
        SkimmedSons sons = Check.read("w11,w12,w13;c,c");
        for (int pan : FAR_OFF) {
            check.due("pan(" + pan + ", 0)", sons.pan(pan, 0), UNKNOWN);
        }
    }

    static void p06_what_0_is_the_least_and_minus_1_outside(Check check) {
        SkimmedSons sons = Check.read("w71;c,c");
        check.due("pan(0, 0)", sons.pan(0, 0), 7);
        check.due("pan(0, -1)", sons.pan(0, -1), OUTSIDE);
    }

    static void p06_what_8_is_the_most_and_9_outside(Check check) {
        SkimmedSons sons = Check.read("c71;c,c");
        check.due("pan(0, 8)", sons.pan(0, 8), 8);
        check.due("pan(0, 9)", sons.pan(0, 9), OUTSIDE);
        for (int what : FAR_OFF) {
            check.due("pan(0, " + what + ")", sons.pan(0, what), OUTSIDE);
        }
    }

    static void p06_unknown_comes_ahead_of_outside(Check check) {
        SkimmedSons sons = Check.read("c71;c,c");
        check.due("pan(1, 9)", sons.pan(1, 9), UNKNOWN);
        check.due("pan(-1, -1)", sons.pan(-1, -1), UNKNOWN);
        check.due("new: pan(0, 9)", new SkimmedSons().pan(0, 9), UNKNOWN);
    }

    static void p06_refused_changes_nothing(Check check) {
        check.refused("pan(3, 0)", Check::busy, sons -> sons.pan(3, 0), UNKNOWN);
        check.refused("pan(2, 9)", Check::busy, sons -> sons.pan(2, 9), OUTSIDE);
    }

    static void p06_asking_changes_nothing(Check check) {
        for (int what = 0; what <= 8; what++) {
            int asked = what;
            check.tells("pan(0, " + what + ")", Check::busy, sons -> sons.pan(0, asked));
        }
    }

    static void p06_on_top_of_an_empty_pan_is_none(Check check) {
        check.due("w00", Check.read("w00;c,c").pan(0, 6), NONE);
    }

    static void p06_on_top_of_fat_alone_is_none(Check check) {
        check.due("w90", Check.read("w90;c,c").pan(0, 6), NONE);
    }

    static void p06_on_top_is_the_last_blue_the_last_cream_the_last_film(Check check) {
        SkimmedSons sons = Check.read("w21;c,c", 3);
        int[] want = {2, 1, 3, NONE};
        for (int top : want) {
            check.due("pan(0, 6)", sons.pan(0, 6), top);
            sons.skim(0, 0);
        }
    }

    static void p06_standing_still_is_told_beyond_9_and_beyond_99(Check check) {
        SkimmedSons sons = Check.read("w21;c,c");
        for (int hour = 1; hour <= 120; hour++) {
            sons.hour();
            check.due("pan(0, 5)", sons.pan(0, 5), hour);
        }
    }

    static void p06_nothing_seen_all_fats_from_0_to_15_can_be(Check check) {
        SkimmedSons sons = Check.read("w00,c55,f99;c,c");
        for (int pan = 0; pan < 3; pan++) {
            check.due("pan(" + pan + ", 7)", sons.pan(pan, 7), 65535);
        }
    }

    static void p06_fat_0_is_bit_0(Check check) {
        SkimmedSons sons = Check.read("c50;c,c");
        sons.see(0, 12, 0);
        check.due("pan(0, 7)", sons.pan(0, 7), 1);
    }

    static void p06_fat_15_is_bit_15_and_the_last(Check check) {
        SkimmedSons sons = Check.read("c50,c50;c,c");
        sons.see(0, 12, 15);
        check.due("pan(0, 7)", sons.pan(0, 7), 1 << 15);
        sons.see(1, 12, 16);
        check.due("pan(1, 7)", sons.pan(1, 7), 0);
    }

    static void p06_seen_at_the_most_that_could_rise_leaves_all_fats_from_there(Check check) {
        SkimmedSons sons = Check.read("w00,c00,f00;c,c");
        sons.see(0, 12, 12);
        sons.see(1, 7, 14);
        sons.see(2, 5, 15);
        check.due("12 to 15", sons.pan(0, 7), 15 << 12);
        check.due("14 and 15", sons.pan(1, 7), 3 << 14);
        check.due("15", sons.pan(2, 7), 1 << 15);
    }

    static void p06_seen_one_below_the_most_that_could_rise_leaves_one_fat(Check check) {
        SkimmedSons sons = Check.read("w00,c00;c,c");
        sons.see(0, 12, 11);
        sons.see(1, 7, 13);
        check.due("11", sons.pan(0, 7), 1 << 11);
        check.due("13", sons.pan(1, 7), 1 << 13);
    }

    static void p06_seen_one_above_the_most_that_could_rise_leaves_none(Check check) {
        SkimmedSons sons = Check.read("w00;c,c");
        sons.see(0, 12, 13);
        check.due("pan(0, 7)", sons.pan(0, 7), 0);
        check.due("pan(0, 8)", sons.pan(0, 8), NONE);
    }

    static void p06_cream_and_film_that_are_there_count_in_what_is_seen(Check check) {
        SkimmedSons sons = Check.read("f95;c,c", 3);
        sons.see(0, 1, 9);
        check.due("8 cream, 1 film, no fat", sons.pan(0, 7), 1);
        sons.forget();
        sons.see(0, 1, 8);
        check.due("less than is there", sons.pan(0, 7), 0);
        sons.forget();
        sons.see(0, 1, 12);
        check.due("3 or more", sons.pan(0, 7), 65535 - 7);
    }

    static void p06_film_that_comes_takes_nothing_from_what_is_seen(Check check) {
        SkimmedSons sons = Check.read("w50;c,c");
        sons.see(0, 3, 2);
        check.due("pan(0, 7)", sons.pan(0, 7), 1 << 2);
    }

    static void p06_what_is_seen_of_another_pan_rules_nothing_out(Check check) {
        SkimmedSons sons = Check.read("w50,w50;c,c");
        sons.see(1, 1, 0);
        check.due("pan(0, 7)", sons.pan(0, 7), 65535);
        check.due("pan(1, 7)", sons.pan(1, 7), 1);
    }

    static void p06_two_seen_that_do_not_agree_leave_none(Check check) {
        SkimmedSons sons = Check.read("w50;c,c");
        sons.see(0, 12, 3);
        sons.see(0, 12, 4);
        check.due("pan(0, 7)", sons.pan(0, 7), 0);
    }

    static void p06_look_is_none_if_no_fats_are_left(Check check) {
        SkimmedSons sons = Check.read("w50;c,c");
        sons.see(0, 1, 40);
        check.due("pan(0, 8)", sons.pan(0, 8), NONE);
    }

    static void p06_look_at_one_fat_left_is_1_the_least_of_like_ones(Check check) {
        SkimmedSons sons = Check.read("f50;c,c");
        sons.see(0, 12, 15);
        check.due("pan(0, 8)", sons.pan(0, 8), 1);
    }

    static void p06_look_at_two_fats_is_the_first_hour_that_tells_them_apart(Check check) {
        SkimmedSons sons = Check.read("c00;c,c");
        sons.see(0, 7, 14);
        check.due("14 and 15 are left", sons.pan(0, 7), 3 << 14);
        check.due("pan(0, 8)", sons.pan(0, 8), 8);
    }

    static void p06_look_is_12_at_most(Check check) {
        SkimmedSons sons = Check.read("w00;c,c");
        check.due("4 alike at worst", sons.pan(0, 8), 12);
        sons.see(0, 11, 11);
        check.due("11 is told from 12 to 15", sons.pan(0, 8), 12);
        sons.see(0, 12, 12);
        check.due("no hour tells any apart", sons.pan(0, 8), 1);
    }

    static void p06_look_on_each_sill_if_all_fats_are_left(Check check) {
        SkimmedSons sons = Check.read("w00,c00,f00;c,c");
        check.due("warm", sons.pan(0, 8), 12);
        check.due("cold", sons.pan(1, 8), 8);
        check.due("frosty", sons.pan(2, 8), 5);
    }

    // ---- 7, child

    static void p07_child_0_is_the_least_and_minus_1_unknown(Check check) {
        SkimmedSons sons = Check.read("w12;j,c");
        check.due("child(0, 0)", sons.child(0, 0), 4);
        check.due("child(-1, 0)", sons.child(-1, 0), UNKNOWN);
    }

    static void p07_the_last_child_of_two_to_five_is_known_the_next_unknown(Check check) {
        String[] dairies = {"w11,w12,w13;c,h", "w11;c,h,s", "w11;c,h,s,y", "w11;c,h,s,y,j"};
        for (int children = 2; children <= 5; children++) {
            SkimmedSons sons = Check.read(dairies[children - 2]);
            check.due("the last of " + children, sons.child(children - 1, 0), children - 1);
            check.due("behind the last of " + children, sons.child(children, 0), UNKNOWN);
        }
    }

    static void p07_children_far_off_are_unknown(Check check) {
        SkimmedSons sons = Check.read("w11;c,h,s,y,j");
        for (int child : FAR_OFF) {
            check.due("child(" + child + ", 0)", sons.child(child, 0), UNKNOWN);
        }
    }

    static void p07_what_0_is_the_least_and_minus_1_outside(Check check) {
        SkimmedSons sons = Check.read("w71;s,c");
        check.due("child(0, 0)", sons.child(0, 0), 2);
        check.due("child(0, -1)", sons.child(0, -1), OUTSIDE);
    }

    static void p07_what_4_is_taken_and_5_to_10_are_outside(Check check) {
        SkimmedSons sons = Check.read("w71;s,c");
        sons.skim(0, 0);
        check.due("child(0, 4)", sons.child(0, 4), 2);
        for (int what = 5; what <= 10; what++) {
            check.due("child(0, " + what + ")", sons.child(0, what), OUTSIDE);
        }
    }

    static void p07_what_11_and_13_are_taken_and_14_outside(Check check) {
        SkimmedSons sons = Check.read("w71;s,c");
        check.due("child(0, 11)", sons.child(0, 11), 1);
        check.due("child(0, 13)", sons.child(0, 13), 2);
        check.due("child(0, 14)", sons.child(0, 14), OUTSIDE);
        for (int what : FAR_OFF) {
            check.due("child(0, " + what + ")", sons.child(0, what), OUTSIDE);
        }
    }

    static void p07_unknown_comes_ahead_of_outside(Check check) {
        SkimmedSons sons = Check.read("w71;s,c");
        check.due("child(2, 5)", sons.child(2, 5), UNKNOWN);
        check.due("child(-1, 14)", sons.child(-1, 14), UNKNOWN);
    }

    static void p07_refused_changes_nothing(Check check) {
        check.refused("child(4, 0)", Check::busy, sons -> sons.child(4, 0), UNKNOWN);
        check.refused("child(0, 10)", Check::busy, sons -> sons.child(0, 10), OUTSIDE);
    }

    static void p07_asking_changes_nothing(Check check) {
        for (int what : new int[] {0, 1, 2, 3, 4, 11, 12, 13}) {
            check.tells("child(0, " + what + ")", Check::busy, sons -> sons.child(0, what));
        }
    }

    static void p07_worth_of_one_is_that_of_all_he_had_of_each(Check check) {
        int[] want = {2 * 2 + 4 + 3, 4 * 2 + 4, 2 + 4 + 2 * 3, 2 * 2 + 8 + 3, 16};
        for (int kind = 0; kind < 5; kind++) {
            SkimmedSons sons = Check.read("w33;c,h,s,y,j", 3);
            Check.skims(sons, kind, 0, 6);
            check.due("cream", sons.child(kind, 1), 2);
            check.due("film", sons.child(kind, 2), 1);
            check.due("blue", sons.child(kind, 3), 3);
            check.due("worth for " + kind, sons.child(kind, 4), want[kind]);
        }
    }

    // ---- 8, as

    static void p08_kind_0_is_the_least_and_minus_1_outside(Check check) {
        SkimmedSons sons = Check.read("w12;c,j");
        check.due("as(0, 0)", sons.as(0, 0), 0);
        check.due("as(0, -1)", sons.as(0, -1), OUTSIDE);
    }

    static void p08_kind_4_is_the_most_and_5_outside(Check check) {
        SkimmedSons sons = Check.read("w12;c,j");
        check.due("as(1, 4)", sons.as(1, 4), 1);
        check.due("as(1, 5)", sons.as(1, 5), OUTSIDE);
        for (int kind : FAR_OFF) {
            check.due("as(1, " + kind + ")", sons.as(1, kind), OUTSIDE);
        }
    }

    static void p08_the_last_child_is_known_the_next_and_minus_1_unknown(Check check) {
        SkimmedSons sons = Check.read("w12,w12,w12;c,j");
        check.due("as(1, 0)", sons.as(1, 0), 1);
        check.due("as(2, 0)", sons.as(2, 0), UNKNOWN);
        check.due("as(-1, 0)", sons.as(-1, 0), UNKNOWN);
        for (int child : FAR_OFF) {
            check.due("as(" + child + ", 0)", sons.as(child, 0), UNKNOWN);
        }
    }

    static void p08_unknown_comes_ahead_of_outside(Check check) {
        SkimmedSons sons = Check.read("w12;c,j");
        check.due("as(2, 5)", sons.as(2, 5), UNKNOWN);
        check.due("as(-1, -1)", sons.as(-1, -1), UNKNOWN);
    }

    static void p08_all_are_children(Check check) {
        SkimmedSons sons = Check.read("w12;c,h,s,y,j");
        for (int child = 0; child < 5; child++) {
            check.due("as(" + child + ", 0)", sons.as(child, 0), child);
        }
    }

    static void p08_a_joan_is_a_youngest_too(Check check) {
        SkimmedSons sons = Check.read("w12;h,j");
        check.due("as(1, 3)", sons.as(1, 3), 1);
    }

    static void p08_a_youngest_is_no_joan(Check check) {
        SkimmedSons sons = Check.read("w12;h,y");
        check.due("as(1, 4)", sons.as(1, 4), NONE);
    }

    static void p08_no_other_is_of_a_kind_beside_its_own(Check check) {
        SkimmedSons sons = Check.read("w12;c,h,s,y,j");
        for (int child = 0; child < 5; child++) {
            for (int kind = 1; kind <= 4; kind++) {
                boolean is = child == kind || child == 4 && kind == 3;
                check.due("as(" + child + ", " + kind + ")", sons.as(child, kind), is ? child : NONE);
            }
        }
    }

    static void p08_refused_or_none_such_changes_nothing(Check check) {
        check.refused("as(4, 0)", Check::busy, sons -> sons.as(4, 0), UNKNOWN);
        check.refused("as(0, 5)", Check::busy, sons -> sons.as(0, 5), OUTSIDE);
        check.refused("as(0, 2)", Check::busy, sons -> sons.as(0, 2), NONE);
    }
}
