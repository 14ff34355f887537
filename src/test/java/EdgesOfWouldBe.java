/** Boundary cases of promises 13 to 16: later, plan, treaty, odds. */
final class EdgesOfWouldBe {
    private static final int NONE = SkimmedSons.NONE, UNKNOWN = SkimmedSons.UNKNOWN, OUTSIDE = SkimmedSons.OUTSIDE,
        STATE = SkimmedSons.STATE;
    private static final int[] FAR_OFF = {Integer.MIN_VALUE, -1000, 1000, Integer.MAX_VALUE};

    private EdgesOfWouldBe() {
    }

    // ---- 13, later

    static void p13_the_last_pan_is_known_the_next_and_minus_1_unknown(Check check) {
        SkimmedSons sons = Check.read("w12,w34;c,j,s");
        check.due("later(1, 0, 3)", sons.later(1, 0, 3), 4);
        check.due("later(2, 0, 3)", sons.later(2, 0, 3), UNKNOWN);
        check.due("later(-1, 0, 3)", sons.later(-1, 0, 3), UNKNOWN);
        for (int pan : FAR_OFF) {
            check.due("later(" + pan + ", 0, 3)", sons.later(pan, 0, 3), UNKNOWN);
        }
    }

    static void p13_0_hours_are_the_fewest_and_tell_what_is_now(Check check) {
        SkimmedSons sons = Check.read("c75;c,j", 3);
        int[] want = {1, 5, 1, 5};
        for (int what = 0; what < 4; what++) {
            check.due("later(0, 0, " + what + ")", sons.later(0, 0, what), want[what]);
        }
        check.due("later(0, -1, 0)", sons.later(0, -1, 0), OUTSIDE);
    }

    static void p13_40_hours_are_the_most_and_41_outside(Check check) {
        SkimmedSons sons = Check.read("w95;c,j");
        check.due("later(0, 40, 2)", sons.later(0, 40, 2), 9);
        check.due("later(0, 41, 2)", sons.later(0, 41, 2), OUTSIDE);
        for (int hours : FAR_OFF) {
            check.due("later(0, " + hours + ", 2)", sons.later(0, hours, 2), OUTSIDE);
        }
    }

    static void p13_hour_39_and_40_are_told_apart(Check check) {
        SkimmedSons sons = Check.read("w95;c,j", 2);
        sons.pour(0, 6, 0);
        check.due("film behind 38 hours", sons.later(0, 38, 2), 12);
        check.due("film behind 39 hours", sons.later(0, 39, 2), 13);
        sons.hour();
        check.due("film behind 37 hours", sons.later(0, 37, 2), 12);
        check.due("film behind 40 hours", sons.later(0, 40, 2), 13);
        sons.hour();
        check.due("film behind 40 hours", sons.later(0, 40, 2), 14);
    }

    static void p13_what_0_and_3_are_taken_minus_1_and_4_outside(Check check) {
        SkimmedSons sons = Check.read("w95;c,j");
        check.due("later(0, 1, 0)", sons.later(0, 1, 0), 8);
        check.due("later(0, 1, 3)", sons.later(0, 1, 3), 5);
        check.due("later(0, 1, -1)", sons.later(0, 1, -1), OUTSIDE);
        check.due("later(0, 1, 4)", sons.later(0, 1, 4), OUTSIDE);
        for (int what : FAR_OFF) {
            check.due("later(0, 1, " + what + ")", sons.later(0, 1, what), OUTSIDE);
        }
    }

    static void p13_unknown_comes_ahead_of_outside(Check check) {
        SkimmedSons sons = Check.read("w95;c,j");
        check.due("later(1, 41, 0)", sons.later(1, 41, 0), UNKNOWN);
        check.due("later(-1, 0, 4)", sons.later(-1, 0, 4), UNKNOWN);
    }

    static void p13_how_long_it_stood_still_counts(Check check) {
        SkimmedSons sons = Check.read("w95;c,j", 2);
        check.due("film in an hour", sons.later(0, 1, 2), 1);
        check.due("film in three", sons.later(0, 3, 2), 1);
        check.due("film in four", sons.later(0, 4, 2), 2);
    }

    static void p13_what_would_be_is_what_comes(Check check) {
        SkimmedSons now = Check.read("c75;c,j");
        SkimmedSons then = Check.read("c75;c,j");
        for (int hours = 0; hours <= 40; hours++) {
            for (int what = 0; what <= 3; what++) {
                check.due("later(0, " + hours + ", " + what + ")", now.later(0, hours, what), then.pan(0, what));
            }
            then.hour();
        }
    }

    static void p13_an_empty_pan_stays_empty(Check check) {
        SkimmedSons sons = Check.read("f00;c,j");
        for (int what = 0; what <= 3; what++) {
            check.due("later(0, 40, " + what + ")", sons.later(0, 40, what), 0);
        }
    }

    static void p13_refused_or_told_changes_nothing(Check check) {
        check.refused("later(3, 0, 0)", Check::busy, sons -> sons.later(3, 0, 0), UNKNOWN);
        check.refused("later(0, 41, 0)", Check::busy, sons -> sons.later(0, 41, 0), OUTSIDE);
        check.tells("later(0, 40, 2)", Check::busy, sons -> sons.later(0, 40, 2));
    }

    // ---- 14, plan

    private static void planIs(Check check, SkimmedSons sons, int child, int hours, int... want) {
        for (int i = 0; i < want.length; i++) {
            int what = i == 0 ? 0 : 9 + i;
            check.due("plan(" + child + ", " + hours + ", " + what + ")", sons.plan(child, hours, what), want[i]);
        }
    }

    static void p14_the_last_child_is_known_the_next_and_minus_1_unknown(Check check) {
        SkimmedSons sons = Check.read("w12,w34,w00;c,s");
        check.due("plan(1, 1, 0)", sons.plan(1, 1, 0), 2);
        check.due("plan(2, 1, 0)", sons.plan(2, 1, 0), UNKNOWN);
        check.due("plan(-1, 1, 0)", sons.plan(-1, 1, 0), UNKNOWN);
        for (int child : FAR_OFF) {
            check.due("plan(" + child + ", 1, 0)", sons.plan(child, 1, 0), UNKNOWN);
        }
    }

    static void p14_1_hour_is_the_fewest_and_0_outside(Check check) {
        SkimmedSons sons = Check.read("w09;c,s");
        planIs(check, sons, 0, 1, 1, 0, NONE, NONE, NONE);
        check.due("plan(0, 0, 0)", sons.plan(0, 0, 0), OUTSIDE);
        check.due("plan(0, -1, 0)", sons.plan(0, -1, 0), OUTSIDE);
    }

    static void p14_4_hours_are_the_most_and_5_outside(Check check) {
        SkimmedSons sons = Check.read("w09;c,s");
        planIs(check, sons, 0, 4, 4, 0, 0, 0, 0);
        check.due("plan(0, 5, 0)", sons.plan(0, 5, 0), OUTSIDE);
        for (int hours : FAR_OFF) {
            check.due("plan(0, " + hours + ", 0)", sons.plan(0, hours, 0), OUTSIDE);
        }
    }

    static void p14_what_0_and_10_to_13_are_taken_all_beside_them_outside(Check check) {
        SkimmedSons sons = Check.read("w09;c,s");
        check.due("plan(0, 4, 0)", sons.plan(0, 4, 0), 4);
        check.due("plan(0, 4, 10)", sons.plan(0, 4, 10), 0);
        check.due("plan(0, 4, 13)", sons.plan(0, 4, 13), 0);
        for (int what : new int[] {Integer.MIN_VALUE, -1, 1, 2, 3, 4, 5, 6, 7, 8, 9, 14, Integer.MAX_VALUE}) {
            check.due("plan(0, 4, " + what + ")", sons.plan(0, 4, what), OUTSIDE);
        }
    }

    static void p14_unknown_comes_ahead_of_outside(Check check) {
        SkimmedSons sons = Check.read("w09;c,s");
        check.due("plan(2, 5, 0)", sons.plan(2, 5, 0), UNKNOWN);
        check.due("plan(-1, 1, 9)", sons.plan(-1, 1, 9), UNKNOWN);
    }

    static void p14_hours_that_are_not_so_many_are_none(Check check) {
        SkimmedSons sons = Check.read("w09,w09;c,s");
        for (int hours = 1; hours <= 4; hours++) {
            for (int step = 0; step < 4; step++) {
                int want = step < hours ? 0 : NONE;
                check.due("plan(0, " + hours + ", 1" + step + ")", sons.plan(0, hours, 10 + step), want);
            }
        }
    }

    static void p14_a_longer_plan_leaves_nothing_to_a_shorter_one(Check check) {
        SkimmedSons sons = Check.read("w09,w09;c,s");
        sons.plan(0, 4, 0);
        planIs(check, sons, 0, 2, 2, 0, 0, NONE, NONE);
    }

    static void p14_nothing_in_any_pan_he_waits_all_along(Check check) {
        planIs(check, Check.read("w00,f00;c,s"), 0, 4, 0, NONE, NONE, NONE, NONE);
    }

    static void p14_fat_alone_he_waits_first_then_skims(Check check) {
        planIs(check, Check.read("w90,w00;c,s"), 0, 4, 6, NONE, 0, 0, 0);
        planIs(check, Check.read("w90,w00;c,s"), 0, 1, 0, NONE, NONE, NONE, NONE);
    }

    static void p14_the_last_that_is_there_is_had_then_he_waits(Check check) {
        planIs(check, Check.read("w00,w01;c,s"), 0, 3, 1, 1, NONE, NONE, NONE);
    }

    static void p14_he_skims_if_there_is_anything_though_it_is_worth_nothing(Check check) {
        planIs(check, Check.read("w00,w01;h,s"), 0, 2, 0, 1, NONE);
        planIs(check, Check.read("w01;h,j", 2), 1, 1, 0, 0, NONE);
    }

    static void p14_of_like_plans_the_first_by_numbers(Check check) {
        planIs(check, Check.read("w09,w09,w09;c,s"), 0, 4, 4, 0, 0, 0, 0);
        planIs(check, Check.read("w01,w01,w01;c,s"), 0, 4, 3, 0, 1, 2, NONE);
        planIs(check, Check.read("w00,w02,w02;c,s"), 0, 4, 4, 1, 1, 2, 2);
    }

    static void p14_a_better_plan_wins_over_one_with_lesser_numbers(Check check) {
        SkimmedSons sons = Check.read("w09,w10,w09;c,s", 1);
        planIs(check, sons, 0, 1, 2, 1);
        planIs(check, sons, 0, 2, 3, 0, 1);
    }

    static void p14_he_leaves_a_pan_alone_that_film_may_come(Check check) {
        SkimmedSons sons = Check.read("w30,w09;y,j", 1);
        planIs(check, sons, 1, 3, 16, 1, 1, 0, NONE);
        planIs(check, sons, 1, 2, 0, 0, 0, NONE, NONE);
    }

    static void p14_the_hour_goes_by_behind_the_skim_not_ahead_of_it(Check check) {
        SkimmedSons sons = Check.read("w10,w01;c,j", 2);
        planIs(check, sons, 1, 1, 0, 0);
        planIs(check, sons, 1, 2, 16, 1, 0);
    }

    static void p14_what_he_had_already_does_not_count(Check check) {
        SkimmedSons sons = Check.read("w09;s,c");
        Check.skims(sons, 0, 0, 5);
        planIs(check, sons, 0, 1, 2, 0);
    }

    static void p14_refused_or_told_changes_nothing(Check check) {
        check.refused("plan(4, 1, 0)", Check::busy, sons -> sons.plan(4, 1, 0), UNKNOWN);
        check.refused("plan(0, 5, 0)", Check::busy, sons -> sons.plan(0, 5, 0), OUTSIDE);
        check.refused("plan(0, 4, 14)", Check::busy, sons -> sons.plan(0, 4, 14), OUTSIDE);
        check.tells("plan(0, 4, 0)", Check::busy, sons -> sons.plan(0, 4, 0));
        check.tells("plan(0, 4, 13)", Check::busy, sons -> sons.plan(0, 4, 13));
    }

    // ---- 15, treaty

    private static void treatyIs(Check check, SkimmedSons sons, int a, int b, int ahead, int pan) {
        check.due("treaty(" + a + ", " + b + ", 0)", sons.treaty(a, b, 0), 1000 + ahead);
        check.due("treaty(" + a + ", " + b + ", 1)", sons.treaty(a, b, 1), pan);
    }

    static void p15_the_last_child_as_a_is_known_the_next_and_minus_1_unknown(Check check) {
        SkimmedSons sons = Check.read("w01,w00,w00;c,s,h");
        check.due("treaty(2, 0, 0)", sons.treaty(2, 0, 0), 1000);
        check.due("treaty(3, 0, 0)", sons.treaty(3, 0, 0), UNKNOWN);
        check.due("treaty(-1, 0, 0)", sons.treaty(-1, 0, 0), UNKNOWN);
        for (int child : FAR_OFF) {
            check.due("treaty(" + child + ", 0, 0)", sons.treaty(child, 0, 0), UNKNOWN);
        }
    }

    static void p15_the_last_child_as_b_is_known_the_next_and_minus_1_unknown(Check check) {
        SkimmedSons sons = Check.read("w01,w00,w00;c,s,h");
        check.due("treaty(0, 2, 0)", sons.treaty(0, 2, 0), 1001);
        check.due("treaty(0, 3, 0)", sons.treaty(0, 3, 0), UNKNOWN);
        check.due("treaty(0, -1, 0)", sons.treaty(0, -1, 0), UNKNOWN);
        for (int child : FAR_OFF) {
            check.due("treaty(0, " + child + ", 0)", sons.treaty(0, child, 0), UNKNOWN);
        }
    }

    static void p15_one_with_himself_is_unknown(Check check) {
        SkimmedSons sons = Check.read("w01;c,c");
        check.due("treaty(0, 0, 0)", sons.treaty(0, 0, 0), UNKNOWN);
        check.due("treaty(1, 1, 0)", sons.treaty(1, 1, 0), UNKNOWN);
    }

    static void p15_two_of_one_kind_are_not_the_same(Check check) {
        treatyIs(check, Check.read("w01;c,c"), 0, 1, 1, 0);
    }

    static void p15_what_0_and_1_are_taken_minus_1_and_2_outside(Check check) {
        SkimmedSons sons = Check.read("w00,w01;c,c");
        check.due("treaty(0, 1, 0)", sons.treaty(0, 1, 0), 1001);
        check.due("treaty(0, 1, 1)", sons.treaty(0, 1, 1), 1);
        check.due("treaty(0, 1, -1)", sons.treaty(0, 1, -1), OUTSIDE);
        check.due("treaty(0, 1, 2)", sons.treaty(0, 1, 2), OUTSIDE);
        for (int what : FAR_OFF) {
            check.due("treaty(0, 1, " + what + ")", sons.treaty(0, 1, what), OUTSIDE);
        }
    }

    static void p15_unknown_comes_ahead_of_outside(Check check) {
        SkimmedSons sons = Check.read("w01;c,c");
        check.due("treaty(0, 0, 2)", sons.treaty(0, 0, 2), UNKNOWN);
        check.due("treaty(2, 0, -1)", sons.treaty(2, 0, -1), UNKNOWN);
        check.due("treaty(0, 2, -1)", sons.treaty(0, 2, -1), UNKNOWN);
    }

    /** So many treaties are done. */
    private static SkimmedSons settled(int many) {
        SkimmedSons sons = Check.read("w00,w93;c,s", 1);
        sons.image();
        for (int i = 0; i < many; i++) {
            sons.treaty(i % 2, 1 - i % 2, i % 2);
        }
        return sons;
    }

    static void p15_treaty_40_is_the_last_done_and_41_is_state(Check check) {
        SkimmedSons sons = settled(39);
        check.due("treaty 40", sons.treaty(0, 1, 1), 1);
        check.due("treaty 41", sons.treaty(0, 1, 1), STATE);
        check.due("treaty 41, what 0", sons.treaty(0, 1, 0), STATE);
        check.due("how often", sons.count(12), 40);
    }

    static void p15_refused_treaties_are_not_among_the_40(Check check) {
        SkimmedSons sons = settled(39);
        sons.treaty(0, 0, 0);
        sons.treaty(0, 2, 0);
        sons.treaty(0, 1, 2);
        check.due("how often", sons.count(12), 39);
        check.due("treaty 40", sons.treaty(0, 1, 1), 1);
    }

    static void p15_unknown_and_outside_come_ahead_of_state(Check check) {
        SkimmedSons sons = settled(40);
        check.due("treaty(0, 0, 0)", sons.treaty(0, 0, 0), UNKNOWN);
        check.due("treaty(0, 2, 0)", sons.treaty(0, 2, 0), UNKNOWN);
        check.due("treaty(0, 1, 2)", sons.treaty(0, 1, 2), OUTSIDE);
    }

    static void p15_another_dairy_or_an_image_takes_none_of_the_40_back(Check check) {
        SkimmedSons sons = settled(40);
        sons.restore();
        check.due("treaty 41", sons.treaty(0, 1, 0), STATE);
        Check.write(sons, "w11;c,c").dairy();
        check.due("treaty 41 in another dairy", sons.treaty(0, 1, 0), STATE);
    }

    static void p15_nothing_in_any_pan_is_1000_and_none(Check check) {
        treatyIs(check, Check.read("w00,w00;c,j"), 0, 1, 0, NONE);
    }

    static void p15_fat_alone_is_nothing(Check check) {
        treatyIs(check, Check.read("f90,w90,c90;c,j"), 0, 1, 0, NONE);
    }

    static void p15_a_takes_the_only_thing_there_is(Check check) {
        treatyIs(check, Check.read("w00,w00,w01;c,s"), 0, 1, 1, 2);
        treatyIs(check, Check.read("w00,w00,w01;c,s"), 1, 0, 2, 2);
    }

    static void p15_worth_nothing_to_a_he_takes_it_all_the_same(Check check) {
        treatyIs(check, Check.read("w00,w01;h,s"), 0, 1, 0, 1);
    }

    static void p15_of_pans_as_good_the_least(Check check) {
        treatyIs(check, Check.read("w02,w02,w02;c,c"), 0, 1, 0, 0);
        treatyIs(check, Check.read("w00,w02,w02;c,c"), 0, 1, 0, 1);
    }

    static void p15_a_better_pan_wins_over_a_lesser_number(Check check) {
        treatyIs(check, Check.read("w01,w10;c,c", 1), 0, 1, 2 - 1, 1);
        treatyIs(check, Check.read("w01,w01,w10;c,c", 1), 0, 1, 2 - 1 + 1, 2);
    }

    static void p15_what_he_uncovers_for_the_other_counts(Check check) {
        // Cream lies on blue: whoever takes the cream leaves the blue to the second.
        SkimmedSons sons = Check.read("w12,w01;h,s", 1);
        treatyIs(check, sons, 0, 1, 4 - 2 - 2, 0);
        treatyIs(check, sons, 1, 0, 1 + 2, 0);
    }

    static void p15_no_hour_goes_by_so_fat_never_counts(Check check) {
        SkimmedSons sons = Check.read("f91;c,s");
        treatyIs(check, sons, 0, 1, 1, 0);
        check.due("fat", sons.pan(0, 0), 9);
        check.due("hours", sons.count(6), 0);
    }

    static void p15_three_full_pans(Check check) {
        SkimmedSons sons = Check.read("w09,w09,w09;c,s,h");
        for (int pan = 0; pan < 3; pan++) {
            sons.pour(pan, 0, 9);
            sons.pour(pan, 0, 2);
        }
        treatyIs(check, sons, 0, 1, 30 - 60, 0);
        treatyIs(check, sons, 1, 2, 60, 0);
        treatyIs(check, sons, 2, 1, -60, 0);
    }

    static void p15_the_most_film_there_can_be(Check check) {
        SkimmedSons sons = Check.read("w90;h,j");
        sons.pour(0, 9, 0);
        sons.pour(0, 2, 0);
        Check.hours(sons, 60);
        check.due("film", sons.pan(0, 2), 20);
        treatyIs(check, sons, 1, 0, 10 * 16 - 10 * 4, 0);
        treatyIs(check, sons, 0, 1, 10 * 4 - 10 * 16, 0);
    }

    static void p15_film_then_several_cream_then_several_blue_in_one_pan(Check check) {
        SkimmedSons sons = Check.read("w32;c,s,j", 3);
        // Film, cream, cream, blue, blue: by turns there is no choice.
        treatyIs(check, sons, 0, 1, 4 - 1 + 2 - 2 + 1, 0);
        treatyIs(check, sons, 1, 0, 4 - 2 + 1 - 1 + 2, 0);
        treatyIs(check, sons, 0, 2, 4 - 0 + 2 - 0 + 1, 0);
        treatyIs(check, sons, 2, 0, 16 - 2 + 0 - 1 + 0, 0);
    }

    static void p15_what_they_had_already_does_not_count(Check check) {
        SkimmedSons sons = Check.read("w05;c,s");
        Check.skims(sons, 0, 0, 4);
        treatyIs(check, sons, 1, 0, 2, 0);
    }

    static void p15_an_odd_number_of_things_leaves_the_last_to_a(Check check) {
        treatyIs(check, Check.read("w03;c,c"), 0, 1, 1, 0);
        treatyIs(check, Check.read("w04;c,c"), 0, 1, 0, 0);
        treatyIs(check, Check.read("w01,w01,w01;c,c"), 0, 1, 1, 0);
    }

    static void p15_refused_changes_nothing(Check check) {
        check.refused("treaty(0, 4, 0)", Check::busy, sons -> sons.treaty(0, 4, 0), UNKNOWN);
        check.refused("treaty(0, 0, 0)", Check::busy, sons -> sons.treaty(0, 0, 0), UNKNOWN);
        check.refused("treaty(0, 1, 2)", Check::busy, sons -> sons.treaty(0, 1, 2), OUTSIDE);
        check.refused("treaty 41", () -> settled(40), sons -> sons.treaty(0, 1, 0), STATE);
    }

    static void p15_done_it_changes_only_how_often(Check check) {
        SkimmedSons sons = Check.busy();
        sons.treaty(0, 1, 0);
        SkimmedSons other = Check.busy();
        other.treaty(3, 2, 1);
        check.alike("behind one treaty or another", sons, other);
        check.due("how often", sons.count(12), 2);
    }

    // ---- 16, odds

    private static void oddsAre(Check check, SkimmedSons sons, int hours, int tenths, int above, int below) {
        String call = "odds(0, " + hours + ", " + tenths + ", ";
        check.due(call + "0)", sons.odds(0, hours, tenths, 0), above);
        check.due(call + "1)", sons.odds(0, hours, tenths, 1), below);
    }

    static void p16_the_last_pan_is_known_the_next_and_minus_1_unknown(Check check) {
        SkimmedSons sons = Check.read("w00,w10;c,j,s", 2);
        check.due("odds(1, 1, 10, 0)", sons.odds(1, 1, 10, 0), 1);
        check.due("odds(2, 1, 10, 0)", sons.odds(2, 1, 10, 0), UNKNOWN);
        check.due("odds(-1, 1, 10, 0)", sons.odds(-1, 1, 10, 0), UNKNOWN);
        for (int pan : FAR_OFF) {
            check.due("odds(" + pan + ", 1, 10, 0)", sons.odds(pan, 1, 10, 0), UNKNOWN);
        }
    }

    static void p16_1_hour_is_the_fewest_and_0_outside(Check check) {
        SkimmedSons sons = Check.read("w10;c,j", 2);
        oddsAre(check, sons, 1, 3, 3, 10);
        check.due("odds(0, 0, 3, 0)", sons.odds(0, 0, 3, 0), OUTSIDE);
        check.due("odds(0, -1, 3, 0)", sons.odds(0, -1, 3, 0), OUTSIDE);
    }

    static void p16_8_hours_are_the_most_and_9_outside(Check check) {
        SkimmedSons sons = Check.read("w10;c,j");
        // Of 256 ways of 8 hours, 149 have no three still ones together.
        oddsAre(check, sons, 8, 5, 107, 256);
        check.due("odds(0, 9, 5, 0)", sons.odds(0, 9, 5, 0), OUTSIDE);
        for (int hours : FAR_OFF) {
            check.due("odds(0, " + hours + ", 5, 0)", sons.odds(0, hours, 5, 0), OUTSIDE);
        }
    }

    static void p16_the_largest_parts_are_told_whole(Check check) {
        SkimmedSons sons = Check.read("w10;c,j");
        long above = 0;
        for (int night = 0; night < 256; night++) {
            long ways = 1;
            boolean run = false;
            for (int hour = 0; hour < 8; hour++) {
                ways *= (night >> hour & 1) == 1 ? 7 : 3;
                run |= (night >> hour & 7) == 7;
            }
            above += run ? ways : 0;
        }
        check.holds("it is in lowest terms", above % 2 != 0 && above % 5 != 0);
        oddsAre(check, sons, 8, 7, (int) above, 100000000);
    }

    static void p16_0_tenths_are_the_fewest_and_never_make_film(Check check) {
        SkimmedSons sons = Check.read("w90;c,j", 2);
        for (int hours = 1; hours <= 8; hours++) {
            oddsAre(check, sons, hours, 0, 0, 1);
        }
        check.due("odds(0, 1, -1, 0)", sons.odds(0, 1, -1, 0), OUTSIDE);
    }

    static void p16_10_tenths_are_the_most_and_are_as_else(Check check) {
        for (int stood = 0; stood < 3; stood++) {
            SkimmedSons sons = Check.read("w90;c,j", stood);
            for (int hours = 1; hours <= 8; hours++) {
                oddsAre(check, sons, hours, 10, stood + hours >= 3 ? 1 : 0, 1);
            }
        }
        SkimmedSons sons = Check.read("w90;c,j");
        check.due("odds(0, 1, 11, 0)", sons.odds(0, 1, 11, 0), OUTSIDE);
        for (int tenths : FAR_OFF) {
            check.due("odds(0, 1, " + tenths + ", 0)", sons.odds(0, 1, tenths, 0), OUTSIDE);
        }
    }

    static void p16_what_0_and_1_are_taken_minus_1_and_2_outside(Check check) {
        SkimmedSons sons = Check.read("w10;c,j", 2);
        oddsAre(check, sons, 1, 5, 1, 2);
        check.due("odds(0, 1, 5, -1)", sons.odds(0, 1, 5, -1), OUTSIDE);
        check.due("odds(0, 1, 5, 2)", sons.odds(0, 1, 5, 2), OUTSIDE);
        for (int what : FAR_OFF) {
            check.due("odds(0, 1, 5, " + what + ")", sons.odds(0, 1, 5, what), OUTSIDE);
        }
    }

    static void p16_unknown_comes_ahead_of_outside(Check check) {
        SkimmedSons sons = Check.read("w10;c,j");
        check.due("odds(1, 9, 5, 0)", sons.odds(1, 9, 5, 0), UNKNOWN);
        check.due("odds(-1, 1, 11, 0)", sons.odds(-1, 1, 11, 0), UNKNOWN);
        check.due("odds(1, 1, 1, 2)", sons.odds(1, 1, 1, 2), UNKNOWN);
    }

    static void p16_never_is_0_of_1(Check check) {
        oddsAre(check, Check.read("w90;c,j"), 2, 9, 0, 1);
        oddsAre(check, Check.read("w90;c,j", 1), 1, 9, 0, 1);
    }

    static void p16_always_is_1_of_1(Check check) {
        oddsAre(check, Check.read("w90;c,j", 2), 1, 10, 1, 1);
    }

    static void p16_in_lowest_terms_by_2_and_by_5(Check check) {
        SkimmedSons sons = Check.read("w90;c,j", 2);
        int[][] want = {{1, 10}, {1, 5}, {3, 10}, {2, 5}, {1, 2}, {3, 5}, {7, 10}, {4, 5}, {9, 10}, {1, 1}};
        for (int tenths = 1; tenths <= 10; tenths++) {
            oddsAre(check, sons, 1, tenths, want[tenths - 1][0], want[tenths - 1][1]);
        }
    }

    static void p16_three_hours_are_just_enough(Check check) {
        SkimmedSons sons = Check.read("w10;c,j");
        oddsAre(check, sons, 2, 5, 0, 1);
        oddsAre(check, sons, 3, 5, 1, 8);
        oddsAre(check, sons, 4, 5, 3, 16);
    }

    static void p16_how_long_it_stood_still_counts_by_threes(Check check) {
        for (int stood = 0; stood <= 7; stood++) {
            SkimmedSons sons = Check.read("c90;c,j", stood);
            int[][] want = {{0, 1}, {0, 1}, {1, 2}};
            oddsAre(check, sons, 1, 5, want[stood % 3][0], want[stood % 3][1]);
            int[][] inTwo = {{0, 1}, {1, 4}, {1, 2}};
            oddsAre(check, sons, 2, 5, inTwo[stood % 3][0], inTwo[stood % 3][1]);
        }
    }

    static void p16_neither_fat_nor_cream_is_never(Check check) {
        oddsAre(check, Check.read("w00;c,j", 2), 8, 10, 0, 1);
        oddsAre(check, Check.read("w09;c,j", 2), 8, 10, 0, 1);
    }

    static void p16_film_alone_is_never(Check check) {
        SkimmedSons sons = Check.read("w10;c,j", 3);
        check.due("film", sons.pan(0, 2), 1);
        oddsAre(check, sons, 8, 10, 0, 1);
    }

    static void p16_one_cream_is_enough(Check check) {
        SkimmedSons sons = Check.read("w20;c,j", 5);
        check.due("cream", sons.pan(0, 1), 1);
        check.due("fat", sons.pan(0, 0), 0);
        oddsAre(check, sons, 1, 9, 9, 10);
    }

    static void p16_just_as_much_fat_as_cream_is_not_none(Check check) {
        SkimmedSons sons = Check.read("w20;c,j", 1);
        check.due("cream", sons.pan(0, 1), 1);
        check.due("fat", sons.pan(0, 0), 1);
        oddsAre(check, sons, 2, 5, 1, 4);
    }

    static void p16_it_rises_in_hours_that_are_not_still_too(Check check) {
        SkimmedSons sons = Check.read("w10;c,j");
        // The first hour not still, three still ones behind it: its cream has risen in the first.
        oddsAre(check, sons, 4, 9, 729 * 9 + 729 + 729, 10000);
    }

    static void p16_refused_or_told_changes_nothing(Check check) {
        check.refused("odds(3, 1, 0, 0)", Check::busy, sons -> sons.odds(3, 1, 0, 0), UNKNOWN);
        check.refused("odds(0, 9, 0, 0)", Check::busy, sons -> sons.odds(0, 9, 0, 0), OUTSIDE);
        check.refused("odds(0, 8, 11, 0)", Check::busy, sons -> sons.odds(0, 8, 11, 0), OUTSIDE);
        check.refused("odds(0, 8, 10, 2)", Check::busy, sons -> sons.odds(0, 8, 10, 2), OUTSIDE);
        check.tells("odds(0, 8, 7, 0)", Check::busy, sons -> sons.odds(0, 8, 7, 0));
    }
}
