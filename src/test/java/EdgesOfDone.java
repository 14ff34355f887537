/** Boundary cases of promises 9 to 12: hour, skim, stir, pour. */
final class EdgesOfDone {
    private static final int UNKNOWN = SkimmedSons.UNKNOWN, OUTSIDE = SkimmedSons.OUTSIDE, STATE = SkimmedSons.STATE,
        FULL = SkimmedSons.FULL;
    private static final int CREAM = 1, FILM = 2, BLUE = 3;
    private static final int[] FAR_OFF = {Integer.MIN_VALUE, -1000, 1000, Integer.MAX_VALUE};

    private EdgesOfDone() {
    }

    // ---- 9, hour

    static void p09_no_dairy_is_state_and_changes_nothing(Check check) {
        check.refused("hour()", SkimmedSons::new, SkimmedSons::hour, STATE);
        check.refused("hour()", () -> Check.write(new SkimmedSons(), "w11;c,c"), SkimmedSons::hour, STATE);
    }

    static void p09_the_first_hour_is_1(Check check) {
        check.due("hour()", Check.read("w11;c,c").hour(), 1);
    }

    static void p09_an_hour_goes_by_for_every_pan(Check check) {
        SkimmedSons sons = Check.read("w90,w90,w90;c,c", 1);
        for (int pan = 0; pan < 3; pan++) {
            check.due("cream of " + pan, sons.pan(pan, 1), 1);
            check.due("still of " + pan, sons.pan(pan, 5), 1);
        }
    }

    static void p09_an_hour_goes_by_though_nothing_is_in_any_pan(Check check) {
        SkimmedSons sons = Check.read("w00,w00;c,c");
        check.due("hour()", sons.hour(), 1);
        check.due("still", sons.pan(1, 5), 1);
    }

    // No run of 512 calls comes so far; the limit should stand all the same.
    static void p09_hour_999_is_the_last_and_the_next_full(Check check) {
        SkimmedSons sons = Check.read("w00;c,c", 998);
        check.due("hour 999", sons.hour(), 999);
        check.due("hour 1000", sons.hour(), FULL);
        check.refused("hour()", () -> Check.read("f93;c,c", 999), SkimmedSons::hour, FULL);
    }

    // ---- 10, skim

    static void p10_the_last_child_is_known_the_next_and_minus_1_unknown(Check check) {
        SkimmedSons sons = Check.read("w09,w09,w09;c,j");
        check.due("skim(1, 0)", sons.skim(1, 0), BLUE);
        check.due("skim(2, 0)", sons.skim(2, 0), UNKNOWN);
        check.due("skim(-1, 0)", sons.skim(-1, 0), UNKNOWN);
    }

    static void p10_the_last_pan_is_known_the_next_and_minus_1_unknown(Check check) {
        SkimmedSons sons = Check.read("w09,w09;c,j,s,y");
        check.due("skim(0, 1)", sons.skim(0, 1), BLUE);
        check.due("skim(0, 2)", sons.skim(0, 2), UNKNOWN);
        check.due("skim(0, -1)", sons.skim(0, -1), UNKNOWN);
    }

    static void p10_numbers_far_off_are_unknown(Check check) {
        SkimmedSons sons = Check.read("w09;c,j");
        for (int number : FAR_OFF) {
            check.due("skim(" + number + ", 0)", sons.skim(number, 0), UNKNOWN);
            check.due("skim(0, " + number + ")", sons.skim(0, number), UNKNOWN);
        }
    }

    static void p10_unknown_comes_ahead_of_state(Check check) {
        SkimmedSons sons = Check.read("w00;c,j");
        check.due("skim(2, 0)", sons.skim(2, 0), UNKNOWN);
        check.due("skim(-1, 0)", sons.skim(-1, 0), UNKNOWN);
    }

    static void p10_nothing_on_an_empty_pan_is_state(Check check) {
        check.due("skim(0, 0)", Check.read("w00;c,j").skim(0, 0), STATE);
    }

    static void p10_nothing_on_fat_alone_is_state(Check check) {
        check.due("skim(0, 0)", Check.read("f90;c,j").skim(0, 0), STATE);
    }

    static void p10_the_last_that_is_on_it_is_had_the_next_is_state(Check check) {
        SkimmedSons sons = Check.read("w01;c,j");
        check.due("skim(0, 0)", sons.skim(0, 0), BLUE);
        check.due("skim(0, 0)", sons.skim(0, 0), STATE);
    }

    static void p10_one_of_it_is_had_and_is_gone_from_the_pan(Check check) {
        SkimmedSons sons = Check.read("w33;c,j", 3);
        int[][] left = {{2, 0, 3}, {1, 0, 3}, {0, 0, 3}, {0, 0, 2}};
        int[][] had = {{0, 1, 0}, {1, 1, 0}, {2, 1, 0}, {2, 1, 1}};
        for (int i = 0; i < left.length; i++) {
            sons.skim(1, 0);
            for (int what = CREAM; what <= BLUE; what++) {
                check.due("skim " + i + ": pan(0, " + what + ")", sons.pan(0, what), left[i][what - 1]);
                check.due("skim " + i + ": child(1, " + what + ")", sons.child(1, what), had[i][what - 1]);
                check.due("skim " + i + ": child(0, " + what + ")", sons.child(0, what), 0);
            }
        }
    }

    static void p10_no_hour_goes_by(Check check) {
        SkimmedSons sons = Check.read("w09,w99;c,j", 2);
        sons.skim(0, 0);
        check.due("hours", sons.count(6), 2);
        check.due("fat of the other", sons.pan(1, 0), 7);
        check.due("still of the other", sons.pan(1, 5), 2);
    }

    static void p10_refused_as_unknown_changes_nothing(Check check) {
        check.refused("skim(4, 0)", Check::busy, sons -> sons.skim(4, 0), UNKNOWN);
        check.refused("skim(0, 3)", Check::busy, sons -> sons.skim(0, 3), UNKNOWN);
    }

    static void p10_refused_as_state_changes_nothing(Check check) {
        check.refused("skim(0, 0)", () -> Check.read("w00,f91;c,j", 2), sons -> sons.skim(0, 0), STATE);
    }

    /** Child 1 has so many BLUE; there is BLUE in pans 0 and 1 that stood still for an hour. */
    private static SkimmedSons withBlue(int many) {
        SkimmedSons sons = Check.read("w00,w01;c,j");
        for (int i = 0; i < many; i++) {
            if (i % 9 == 0) {
                sons.pour(0, 0, 9);
            }
            sons.skim(1, 0);
        }
        sons.pour(0, 0, 9);
        sons.hour();
        return sons;
    }

    /** Child 1 has so many CREAM; there is CREAM on both pans. */
    private static SkimmedSons withCream(int many) {
        SkimmedSons sons = Check.read("f00,f91;c,j");
        for (int i = 0; i < many; i++) {
            if (i % 3 == 0) {
                sons.pour(0, 3, 0);
                sons.hour();
            }
            sons.skim(1, 0);
        }
        // So that no FILM lies on pan 1 when it is looked at.
        sons.stir(1);
        sons.pour(0, 3, 0);
        sons.hour();
        return sons;
    }

    /** Child 1 has so many FILM, three each three hours; there is FILM on all pans. */
    private static SkimmedSons withFilm(int many) {
        SkimmedSons sons = Check.read("f00,f00,f00;c,j");
        for (int i = 0; i < many; i++) {
            if (i % 27 == 0) {
                for (int pan = 0; pan < 3; pan++) {
                    sons.pour(pan, 9, 0);
                }
            }
            if (i % 3 == 0) {
                Check.hours(sons, 3);
            }
            sons.skim(1, i % 3);
        }
        Check.hours(sons, 3);
        return sons;
    }

    static void p10_blue_99_is_the_last_had_and_100_full(Check check) {
        SkimmedSons sons = withBlue(98);
        check.due("blue 99", sons.skim(1, 0), BLUE);
        check.due("had", sons.child(1, 3), 99);
        check.due("blue 100", sons.skim(1, 0), FULL);
        check.due("blue 100 of another pan", sons.skim(1, 1), FULL);
        check.due("had", sons.child(1, 3), 99);
    }

    static void p10_cream_99_is_the_last_had_and_100_full(Check check) {
        SkimmedSons sons = withCream(98);
        check.due("had", sons.child(1, 1), 98);
        check.due("cream 99", sons.skim(1, 0), CREAM);
        check.due("cream 100", sons.skim(1, 0), FULL);
        check.due("cream 100 of another pan", sons.skim(1, 1), FULL);
        check.due("had", sons.child(1, 1), 99);
    }

    static void p10_film_99_is_the_last_had_and_100_full(Check check) {
        SkimmedSons sons = withFilm(98);
        check.due("had", sons.child(1, 2), 98);
        check.due("film 99", sons.skim(1, 0), FILM);
        check.due("film 100 of another pan", sons.skim(1, 1), FULL);
        check.due("had", sons.child(1, 2), 99);
        check.due("worth", sons.child(1, 4), 99 * 16);
    }

    static void p10_99_of_one_thing_leave_the_others_to_be_had(Check check) {
        SkimmedSons sons = withBlue(99);
        sons.pour(0, 1, 0);
        sons.hour();
        check.due("cream", sons.skim(1, 0), CREAM);
        check.due("blue", sons.skim(1, 0), FULL);
    }

    static void p10_99_of_one_child_leave_another_to_have_it(Check check) {
        SkimmedSons sons = withBlue(99);
        check.due("skim(1, 0)", sons.skim(1, 0), FULL);
        check.due("skim(0, 0)", sons.skim(0, 0), BLUE);
    }

    static void p10_state_comes_ahead_of_full(Check check) {
        SkimmedSons sons = withBlue(99);
        Check.skims(sons, 0, 0, 9);
        check.due("skim(1, 0)", sons.skim(1, 0), STATE);
    }

    static void p10_unknown_comes_ahead_of_full(Check check) {
        SkimmedSons sons = withBlue(99);
        check.due("skim(1, 2)", sons.skim(1, 2), UNKNOWN);
    }

    static void p10_refused_as_full_changes_nothing(Check check) {
        check.refused("skim(1, 0) of blue", () -> withBlue(99), sons -> sons.skim(1, 0), FULL);
        check.refused("skim(1, 0) of cream", () -> withCream(99), sons -> sons.skim(1, 0), FULL);
        check.refused("skim(1, 0) of film", () -> withFilm(99), sons -> sons.skim(1, 0), FULL);
        SkimmedSons sons = withBlue(99);
        sons.skim(1, 0);
        check.due("still", sons.pan(0, 5), 1);
    }

    // ---- 11, stir

    static void p11_the_last_pan_is_known_the_next_and_minus_1_unknown(Check check) {
        SkimmedSons sons = Check.read("w12,w34;c,j,s");
        check.due("stir(0)", sons.stir(0), 1);
        check.due("stir(1)", sons.stir(1), 3);
        check.due("stir(2)", sons.stir(2), UNKNOWN);
        check.due("stir(-1)", sons.stir(-1), UNKNOWN);
        for (int pan : FAR_OFF) {
            check.due("stir(" + pan + ")", sons.stir(pan), UNKNOWN);
        }
    }

    static void p11_refused_changes_nothing(Check check) {
        check.refused("stir(3)", Check::busy, sons -> sons.stir(3), UNKNOWN);
        check.refused("stir(-1)", Check::busy, sons -> sons.stir(-1), UNKNOWN);
    }

    static void p11_an_empty_pan_has_0(Check check) {
        check.due("stir(0)", Check.read("w00;c,j").stir(0), 0);
    }

    static void p11_blue_alone_is_no_fat(Check check) {
        SkimmedSons sons = Check.read("w09;c,j");
        check.due("stir(0)", sons.stir(0), 0);
        check.due("blue", sons.pan(0, 3), 9);
    }

    static void p11_all_cream_and_all_film_is_fat_again(Check check) {
        SkimmedSons sons = Check.read("c75,f90;c,j", 6);
        check.due("film ahead", sons.pan(0, 2), 2);
        check.due("stir(0)", sons.stir(0), 7);
        int[] want = {7, 0, 0, 5, 1, 0, BLUE};
        for (int what = 0; what < want.length; what++) {
            check.due("pan(0, " + what + ")", sons.pan(0, what), want[what]);
        }
        check.due("film of the other", sons.pan(1, 2), 2);
        check.due("still of the other", sons.pan(1, 5), 6);
    }

    static void p11_stirred_though_nothing_has_risen_it_stands_still_no_more(Check check) {
        SkimmedSons sons = Check.read("w09;c,j", 2);
        sons.stir(0);
        check.due("still", sons.pan(0, 5), 0);
    }

    static void p11_stirred_just_ahead_of_hour_3_film_comes_3_hours_later(Check check) {
        SkimmedSons sons = Check.read("c90;c,c", 2);
        sons.stir(0);
        Check.hours(sons, 2);
        check.due("film in hour 4", sons.pan(0, 2), 0);
        sons.hour();
        check.due("film in hour 5", sons.pan(0, 2), 1);
    }

    static void p11_no_hour_goes_by_and_what_was_had_stays(Check check) {
        SkimmedSons sons = Check.busy();
        int worth = sons.count(7);
        sons.stir(0);
        check.due("hours", sons.count(6), 6);
        check.due("worth of all", sons.count(7), worth);
    }

    // ---- 12, pour

    static void p12_the_last_pan_is_known_the_next_and_minus_1_unknown(Check check) {
        SkimmedSons sons = Check.read("w12,w34;c,j,s");
        check.due("pour(1, 1, 1)", sons.pour(1, 1, 1), 9);
        check.due("pour(2, 1, 1)", sons.pour(2, 1, 1), UNKNOWN);
        check.due("pour(-1, 1, 1)", sons.pour(-1, 1, 1), UNKNOWN);
        for (int pan : FAR_OFF) {
            check.due("pour(" + pan + ", 1, 1)", sons.pour(pan, 1, 1), UNKNOWN);
        }
    }

    static void p12_fat_0_and_9_are_taken_minus_1_and_10_outside(Check check) {
        SkimmedSons sons = Check.read("w00;c,j");
        check.due("pour(0, 0, 1)", sons.pour(0, 0, 1), 1);
        check.due("pour(0, 9, 1)", sons.pour(0, 9, 1), 11);
        check.due("pour(0, -1, 1)", sons.pour(0, -1, 1), OUTSIDE);
        check.due("pour(0, 10, 1)", sons.pour(0, 10, 1), OUTSIDE);
        for (int fat : FAR_OFF) {
            check.due("pour(0, " + fat + ", 1)", sons.pour(0, fat, 1), OUTSIDE);
        }
    }

    static void p12_blue_0_and_9_are_taken_minus_1_and_10_outside(Check check) {
        SkimmedSons sons = Check.read("w00;c,j");
        check.due("pour(0, 1, 0)", sons.pour(0, 1, 0), 1);
        check.due("pour(0, 1, 9)", sons.pour(0, 1, 9), 11);
        check.due("pour(0, 1, -1)", sons.pour(0, 1, -1), OUTSIDE);
        check.due("pour(0, 1, 10)", sons.pour(0, 1, 10), OUTSIDE);
        for (int blue : FAR_OFF) {
            check.due("pour(0, 1, " + blue + ")", sons.pour(0, 1, blue), OUTSIDE);
        }
    }

    static void p12_the_most_at_once_is_9_and_9(Check check) {
        SkimmedSons sons = Check.read("w00,w11,w20;c,j");
        check.due("pour(0, 9, 9) on 0", sons.pour(0, 9, 9), 18);
        check.due("pour(1, 9, 9) on 2", sons.pour(1, 9, 9), 20);
        check.due("pour(2, 9, 9) on 2", sons.pour(2, 9, 9), 20);
    }

    static void p12_20_in_all_are_taken_21_are_full(Check check) {
        SkimmedSons sons = Check.read("w99,w99;c,j");
        check.due("pour(0, 2, 0)", sons.pour(0, 2, 0), 20);
        check.due("pour(1, 3, 0)", sons.pour(1, 3, 0), FULL);
        check.due("pour(1, 0, 3)", sons.pour(1, 0, 3), FULL);
        check.due("pour(1, 1, 2)", sons.pour(1, 1, 2), FULL);
        check.due("pour(1, 0, 2)", sons.pour(1, 0, 2), 20);
        check.due("pour(1, 0, 1)", sons.pour(1, 0, 1), FULL);
    }

    static void p12_cream_and_film_count_among_the_20(Check check) {
        SkimmedSons sons = Check.read("f95;c,j", 3);
        check.due("pour(0, 6, 1)", sons.pour(0, 6, 1), FULL);
        check.due("pour(0, 5, 1)", sons.pour(0, 5, 1), 20);
    }

    static void p12_a_full_pan_takes_as_much_again_as_was_skimmed(Check check) {
        SkimmedSons sons = Check.read("w29;c,j");
        sons.pour(0, 0, 9);
        sons.skim(0, 0);
        check.due("pour(0, 1, 1)", sons.pour(0, 1, 1), FULL);
        check.due("pour(0, 1, 0)", sons.pour(0, 1, 0), 20);
    }

    static void p12_nothing_at_all_is_taken_even_on_a_full_pan(Check check) {
        SkimmedSons sons = Check.read("w29,w00;c,j");
        sons.pour(0, 0, 9);
        check.due("pour(0, 0, 0)", sons.pour(0, 0, 0), 20);
        check.due("pour(1, 0, 0)", sons.pour(1, 0, 0), 0);
    }

    static void p12_it_stands_still_no_more_even_if_nothing_is_poured(Check check) {
        SkimmedSons sons = Check.read("w11,w11,w11;c,j", 2);
        sons.pour(0, 1, 0);
        sons.pour(1, 0, 0);
        check.due("still of 0", sons.pan(0, 5), 0);
        check.due("still of 1", sons.pan(1, 5), 0);
        check.due("still of 2", sons.pan(2, 5), 2);
    }

    static void p12_what_has_risen_stays_on_top(Check check) {
        SkimmedSons sons = Check.read("w31;c,j", 3);
        check.due("pour(0, 2, 4)", sons.pour(0, 2, 4), 10);
        int[] want = {2, 2, 1, 5, 0, 0, FILM};
        for (int what = 0; what < want.length; what++) {
            check.due("pan(0, " + what + ")", sons.pan(0, what), want[what]);
        }
    }

    static void p12_unknown_comes_ahead_of_outside(Check check) {
        SkimmedSons sons = Check.read("w29;c,j");
        check.due("pour(1, 10, 0)", sons.pour(1, 10, 0), UNKNOWN);
        check.due("pour(-1, 0, -1)", sons.pour(-1, 0, -1), UNKNOWN);
    }

    static void p12_outside_comes_ahead_of_full(Check check) {
        SkimmedSons sons = Check.read("w99;c,j");
        check.due("pour(0, 10, 9)", sons.pour(0, 10, 9), OUTSIDE);
        check.due("pour(0, 9, 10)", sons.pour(0, 9, 10), OUTSIDE);
        check.due("pour(0, 9, -1)", sons.pour(0, 9, -1), OUTSIDE);
    }

    static void p12_refused_changes_nothing(Check check) {
        check.refused("pour(3, 1, 1)", Check::busy, sons -> sons.pour(3, 1, 1), UNKNOWN);
        check.refused("pour(0, 10, 1)", Check::busy, sons -> sons.pour(0, 10, 1), OUTSIDE);
        check.refused("pour(0, 1, 10)", Check::busy, sons -> sons.pour(0, 1, 10), OUTSIDE);
        check.refused("pour(1, 9, 9)", Check::busy, sons -> sons.pour(1, 9, 9), FULL);
        check.refused("pour(0, 3, 0)", () -> Check.read("c99;c,j", 4), sons -> sons.pour(0, 3, 0), FULL);
    }
}
