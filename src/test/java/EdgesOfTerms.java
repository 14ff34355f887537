/** Boundary cases of what stands ahead of the promises: what an hour, a skim, a stir does. */
final class EdgesOfTerms {
    private EdgesOfTerms() {
    }

    private static void panIs(Check check, SkimmedSons sons, String when, int fat, int cream, int film, int blue) {
        int[] want = {fat, cream, film, blue};
        for (int what = 0; what < want.length; what++) {
            check.due(when + ": pan(0, " + what + ")", sons.pan(0, what), want[what]);
        }
    }

    static void p00_at_first_nothing_has_risen_and_nobody_had_anything_in_hour_0(Check check) {
        SkimmedSons sons = Check.read("c74;h,j");
        panIs(check, sons, "at first", 7, 0, 0, 4);
        check.due("still", sons.pan(0, 5), 0);
        check.due("hours", sons.count(6), 0);
        for (int child = 0; child < 2; child++) {
            for (int what = 1; what <= 4; what++) {
                check.due("child(" + child + ", " + what + ")", sons.child(child, what), 0);
            }
        }
    }

    static void p00_on_each_sill_1_more_than_it_rises(Check check) {
        panIs(check, Check.read("w90;c,c", 1), "warm", 8, 1, 0, 0);
        panIs(check, Check.read("c90;c,c", 1), "cold", 7, 2, 0, 0);
        panIs(check, Check.read("f90;c,c", 1), "frosty", 6, 3, 0, 0);
    }

    static void p00_just_as_much_fat_as_rises_all_rises(Check check) {
        panIs(check, Check.read("w10;c,c", 1), "warm", 0, 1, 0, 0);
        panIs(check, Check.read("c20;c,c", 1), "cold", 0, 2, 0, 0);
        panIs(check, Check.read("f30;c,c", 1), "frosty", 0, 3, 0, 0);
    }

    static void p00_one_fat_more_than_rises_is_left(Check check) {
        panIs(check, Check.read("w20;c,c", 1), "warm", 1, 1, 0, 0);
        panIs(check, Check.read("c30;c,c", 1), "cold", 1, 2, 0, 0);
        panIs(check, Check.read("f40;c,c", 1), "frosty", 1, 3, 0, 0);
    }

    static void p00_less_fat_than_would_rise_all_there_is_rises(Check check) {
        panIs(check, Check.read("c10;c,c", 1), "cold", 0, 1, 0, 0);
        panIs(check, Check.read("f10;c,c", 1), "frosty, 1", 0, 1, 0, 0);
        panIs(check, Check.read("f20;c,c", 1), "frosty, 2", 0, 2, 0, 0);
    }

    static void p00_no_fat_nothing_rises_but_it_stands_still(Check check) {
        SkimmedSons sons = Check.read("f09;c,c", 3);
        panIs(check, sons, "three hours on", 0, 0, 0, 9);
        check.due("still", sons.pan(0, 5), 3);
    }

    static void p00_film_comes_in_hours_3_6_9_12_and_in_none_between(Check check) {
        SkimmedSons sons = Check.read("f90;c,c");
        for (int hour = 1; hour <= 30; hour++) {
            sons.hour();
            check.due("film in hour " + hour, sons.pan(0, 2), Math.min(9, hour / 3));
        }
    }

    static void p00_no_cream_no_film_comes_in_hour_3(Check check) {
        SkimmedSons sons = Check.read("w01;c,c", 3);
        check.due("film", sons.pan(0, 2), 0);
    }

    static void p00_the_last_cream_becomes_film_then_no_more_does(Check check) {
        SkimmedSons sons = Check.read("w10;c,c", 3);
        panIs(check, sons, "in hour 3", 0, 0, 1, 0);
        Check.hours(sons, 3);
        panIs(check, sons, "in hour 6", 0, 0, 1, 0);
        check.due("still", sons.pan(0, 5), 6);
    }

    static void p00_one_cream_alone_becomes_film_though_there_is_more(Check check) {
        panIs(check, Check.read("f90;c,c", 3), "in hour 3", 0, 8, 1, 0);
    }

    static void p00_film_is_skimmed_ahead_of_cream_and_cream_ahead_of_blue(Check check) {
        SkimmedSons sons = Check.read("w32;c,c", 3);
        for (int want : new int[] {2, 1, 1, 3, 3, SkimmedSons.STATE}) {
            check.due("skim(0, 0)", sons.skim(0, 0), want);
        }
    }

    static void p00_fat_alone_cannot_be_had(Check check) {
        SkimmedSons sons = Check.read("w90;c,c");
        check.due("skim(0, 0)", sons.skim(0, 0), SkimmedSons.STATE);
        check.due("top", sons.pan(0, 6), SkimmedSons.NONE);
        sons.hour();
        check.due("skim(0, 0) in an hour", sons.skim(0, 0), 1);
        check.due("skim(0, 0) of fat that is left", sons.skim(0, 0), SkimmedSons.STATE);
        check.due("fat that is left", sons.pan(0, 0), 8);
    }

    static void p00_a_skim_just_ahead_of_hour_3_puts_film_off_by_3_hours(Check check) {
        SkimmedSons sons = Check.read("c90;c,c", 2);
        sons.skim(0, 0);
        check.due("still", sons.pan(0, 5), 0);
        Check.hours(sons, 2);
        check.due("film in hour 4", sons.pan(0, 2), 0);
        sons.hour();
        check.due("film in hour 5", sons.pan(0, 2), 1);
    }

    static void p00_a_skim_of_blue_too_ends_standing_still(Check check) {
        SkimmedSons sons = Check.read("w01,w01;c,c", 2);
        sons.skim(0, 0);
        check.due("still", sons.pan(0, 5), 0);
        check.due("still of the other", sons.pan(1, 5), 2);
    }

    static void p00_worths_of_each_kind(Check check) {
        SkimmedSons sons = Check.read("w42;c,h,s,y,j");
        int[][] want = {{2, 4, 1}, {4, 4, 0}, {1, 4, 2}, {2, 8, 1}, {0, 16, 0}};
        for (int child = 0; child < 5; child++) {
            for (int what = 11; what <= 13; what++) {
                check.due("child(" + child + ", " + what + ")", sons.child(child, what), want[child][what - 11]);
            }
        }
    }

    static void p00_two_children_of_one_kind_have_each_their_own(Check check) {
        SkimmedSons sons = Check.read("w03;s,s");
        Check.skims(sons, 1, 0, 2);
        check.due("child(0, 4)", sons.child(0, 4), 0);
        check.due("child(1, 4)", sons.child(1, 4), 4);
    }

    static void p00_the_512th_call_is_answered_as_the_first(Check check) {
        SkimmedSons sons = Check.read("w11;c,c");
        for (int call = 9; call <= 511; call++) {
            sons.hour();
        }
        check.due("call 512, hour()", sons.hour(), 504);
    }
}
