/** Boundary cases of promises 17 to 19: see, forget, nights. */
final class EdgesOfSeen {
    private static final int UNKNOWN = SkimmedSons.UNKNOWN, OUTSIDE = SkimmedSons.OUTSIDE, STATE = SkimmedSons.STATE,
        FULL = SkimmedSons.FULL;
    private static final int[] FAR_OFF = {Integer.MIN_VALUE, -1000, 1000, Integer.MAX_VALUE};

    private EdgesOfSeen() {
    }

    // ---- 17, see

    static void p17_the_last_pan_is_known_the_next_and_minus_1_unknown(Check check) {
        SkimmedSons sons = Check.read("w12,w34;c,j,s");
        check.due("see(1, 1, 0)", sons.see(1, 1, 0), 1);
        check.due("see(2, 1, 0)", sons.see(2, 1, 0), UNKNOWN);
        check.due("see(-1, 1, 0)", sons.see(-1, 1, 0), UNKNOWN);
        for (int pan : FAR_OFF) {
            check.due("see(" + pan + ", 1, 0)", sons.see(pan, 1, 0), UNKNOWN);
        }
    }

    static void p17_1_hour_is_the_fewest_and_0_outside(Check check) {
        SkimmedSons sons = Check.read("w12;c,j");
        check.due("see(0, 1, 0)", sons.see(0, 1, 0), 1);
        check.due("see(0, 0, 0)", sons.see(0, 0, 0), OUTSIDE);
        check.due("see(0, -1, 0)", sons.see(0, -1, 0), OUTSIDE);
    }

    static void p17_12_hours_are_the_most_and_13_outside(Check check) {
        SkimmedSons sons = Check.read("w12;c,j");
        check.due("see(0, 12, 11)", sons.see(0, 12, 11), 1);
        check.due("it counts as 12", sons.pan(0, 7), 1 << 11);
        check.due("see(0, 13, 0)", sons.see(0, 13, 0), OUTSIDE);
        for (int hours : FAR_OFF) {
            check.due("see(0, " + hours + ", 0)", sons.see(0, hours, 0), OUTSIDE);
        }
    }

    static void p17_much_0_is_the_least_and_minus_1_outside(Check check) {
        SkimmedSons sons = Check.read("w12;c,j");
        check.due("see(0, 1, 0)", sons.see(0, 1, 0), 1);
        check.due("see(0, 1, -1)", sons.see(0, 1, -1), OUTSIDE);
    }

    static void p17_much_40_is_the_most_and_41_outside(Check check) {
        SkimmedSons sons = Check.read("w12;c,j");
        check.due("see(0, 1, 40)", sons.see(0, 1, 40), 1);
        check.due("see(0, 1, 41)", sons.see(0, 1, 41), OUTSIDE);
        for (int much : FAR_OFF) {
            check.due("see(0, 1, " + much + ")", sons.see(0, 1, much), OUTSIDE);
        }
    }

    /** So many are seen, of two pans by turns; an image is kept ahead of them. */
    private static SkimmedSons seen(int many) {
        SkimmedSons sons = Check.read("w92,c34;c,j", 1);
        sons.image();
        for (int i = 0; i < many; i++) {
            sons.see(i % 2, 1 + i, 2 + i);
        }
        return sons;
    }

    static void p17_the_6th_is_the_last_seen_and_the_7th_full(Check check) {
        SkimmedSons sons = seen(5);
        check.due("see 6", sons.see(0, 6, 7), 6);
        check.due("see 7", sons.see(0, 7, 8), FULL);
        check.due("see 7 of the other pan", sons.see(1, 7, 8), FULL);
        check.due("how much is seen", sons.count(9), 6);
    }

    static void p17_6_of_one_pan_leave_none_for_another(Check check) {
        SkimmedSons sons = Check.read("w92,c34;c,j");
        for (int i = 1; i <= 6; i++) {
            check.due("see " + i, sons.see(0, i, i), i);
        }
        check.due("see 7 of the other pan", sons.see(1, 1, 1), FULL);
        check.due("6 or more", sons.pan(0, 7), 65535 - 63);
    }

    static void p17_the_same_seen_twice_is_two(Check check) {
        SkimmedSons sons = Check.read("w92;c,j");
        check.due("see 1", sons.see(0, 3, 3), 1);
        check.due("see 2", sons.see(0, 3, 3), 2);
        check.due("3 or more", sons.pan(0, 7), 65535 - 7);
    }

    static void p17_what_cannot_be_is_seen_all_the_same(Check check) {
        SkimmedSons sons = Check.read("w92;c,j");
        check.due("see(0, 1, 40)", sons.see(0, 1, 40), 1);
        check.due("no fats", sons.pan(0, 7), 0);
        check.due("see(0, 1, 1)", sons.see(0, 1, 1), 2);
        check.due("still none", sons.pan(0, 7), 0);
    }

    static void p17_every_one_of_the_6_counts(Check check) {
        for (int odd = 0; odd < 6; odd++) {
            SkimmedSons sons = Check.read("w92;c,j");
            for (int i = 0; i < 6; i++) {
                sons.see(0, 12, i == odd ? 40 : 5);
            }
            check.due("40 seen as number " + odd, sons.pan(0, 7), 0);
        }
    }

    static void p17_unknown_comes_ahead_of_outside(Check check) {
        SkimmedSons sons = Check.read("w92;c,j");
        check.due("see(1, 0, 0)", sons.see(1, 0, 0), UNKNOWN);
        check.due("see(-1, 1, 41)", sons.see(-1, 1, 41), UNKNOWN);
    }

    static void p17_unknown_and_outside_come_ahead_of_full(Check check) {
        SkimmedSons sons = seen(6);
        check.due("see(2, 1, 0)", sons.see(2, 1, 0), UNKNOWN);
        check.due("see(0, 13, 0)", sons.see(0, 13, 0), OUTSIDE);
        check.due("see(0, 0, 0)", sons.see(0, 0, 0), OUTSIDE);
        check.due("see(0, 1, 41)", sons.see(0, 1, 41), OUTSIDE);
        check.due("see(0, 1, -1)", sons.see(0, 1, -1), OUTSIDE);
    }

    static void p17_refused_changes_nothing(Check check) {
        check.refused("see(3, 1, 1)", Check::busy, sons -> sons.see(3, 1, 1), UNKNOWN);
        check.refused("see(0, 13, 1)", Check::busy, sons -> sons.see(0, 13, 1), OUTSIDE);
        check.refused("see(0, 1, 41)", Check::busy, sons -> sons.see(0, 1, 41), OUTSIDE);
        check.refused("see 7", () -> seen(6), sons -> sons.see(0, 1, 40), FULL);
    }

    static void p17_seeing_leaves_the_pan_and_the_hours_as_they_are(Check check) {
        SkimmedSons sons = Check.read("w92;c,j", 2);
        sons.see(0, 5, 9);
        int[] want = {7, 2, 0, 2, 0, 2, 1};
        for (int what = 0; what < want.length; what++) {
            check.due("pan(0, " + what + ")", sons.pan(0, what), want[what]);
        }
        check.due("hours", sons.count(6), 2);
    }

    // ---- 18, forget

    static void p18_nothing_seen_was_0(Check check) {
        check.due("forget() of a new one", new SkimmedSons().forget(), 0);
        check.due("forget()", Check.read("w92;c,j").forget(), 0);
    }

    static void p18_one_seen_was_1(Check check) {
        check.due("forget()", seen(1).forget(), 1);
    }

    static void p18_as_much_as_can_be_seen_was_6(Check check) {
        SkimmedSons sons = seen(6);
        sons.see(0, 1, 1);
        check.due("forget()", sons.forget(), 6);
    }

    static void p18_forget_twice_was_0_the_second_time(Check check) {
        SkimmedSons sons = seen(6);
        sons.forget();
        check.due("forget()", sons.forget(), 0);
        check.due("count(9)", sons.count(9), 0);
    }

    static void p18_all_fats_can_be_again_in_every_pan(Check check) {
        SkimmedSons sons = seen(6);
        sons.forget();
        check.due("pan(0, 7)", sons.pan(0, 7), 65535);
        check.due("pan(1, 7)", sons.pan(1, 7), 65535);
    }

    static void p18_6_more_can_be_seen_then(Check check) {
        SkimmedSons sons = seen(6);
        sons.forget();
        for (int i = 1; i <= 6; i++) {
            check.due("see " + i, sons.see(0, i, 0), i);
        }
        check.due("see 7", sons.see(0, 1, 0), FULL);
    }

    static void p18_what_the_image_keeps_is_not_forgotten(Check check) {
        SkimmedSons sons = seen(3);
        sons.image();
        int fats = sons.pan(0, 7);
        sons.forget();
        sons.restore();
        check.due("count(9)", sons.count(9), 3);
        check.due("pan(0, 7)", sons.pan(0, 7), fats);
    }

    static void p18_what_is_seen_alone_is_changed(Check check) {
        SkimmedSons sons = seen(4);
        sons.forget();
        check.alike("behind forget()", sons, seen(0));
    }

    // ---- 19, nights

    static void p19_1_time_is_the_fewest_and_0_outside(Check check) {
        SkimmedSons sons = Check.read("w92;c,j");
        check.due("nights(1, 0, 2)", sons.nights(1, 0, 2), 12345);
        check.due("nights(0, 0, 2)", sons.nights(0, 0, 2), OUTSIDE);
        check.due("nights(-1, 0, 2)", sons.nights(-1, 0, 2), OUTSIDE);
    }

    static void p19_60_times_are_the_most_and_61_outside(Check check) {
        SkimmedSons sons = Check.read("w92,c85;c,j,s");
        nightsAre(check, sons, "w92,c85;c,j,s", 60, 4);
        check.due("nights(61, 4, 0)", sons.nights(61, 4, 0), OUTSIDE);
        for (int times : FAR_OFF) {
            check.due("nights(" + times + ", 4, 0)", sons.nights(times, 4, 0), OUTSIDE);
        }
    }

    static void p19_seed_0_is_the_least_and_minus_1_outside(Check check) {
        SkimmedSons sons = Check.read("w92;c,j");
        check.due("nights(1, 0, 2)", sons.nights(1, 0, 2), 12345);
        check.due("nights(1, -1, 2)", sons.nights(1, -1, 2), OUTSIDE);
        check.due("nights(1, least, 2)", sons.nights(1, Integer.MIN_VALUE, 2), OUTSIDE);
    }

    static void p19_the_largest_seed_is_taken_and_its_next_wraps(Check check) {
        SkimmedSons sons = Check.read("w09,w09,f90;c,j");
        // Its next is 1043980748, by 65536 an odd number: one skims, and two more are drawn.
        check.due("nights(1, 2147483647, 2)", sons.nights(1, Integer.MAX_VALUE, 2), 646343466);
        nightsAre(check, sons, "w09,w09,f90;c,j", 60, Integer.MAX_VALUE);
    }

    static void p19_the_seed_then_is_always_from_0_to_the_largest(Check check) {
        SkimmedSons sons = Check.read("w92;c,j");
        for (int times = 1; times <= 60; times++) {
            check.holds("the seed then", sons.nights(times, 77, 2) >= 0);
        }
    }

    static void p19_what_0_and_2_are_taken_minus_1_and_3_outside(Check check) {
        SkimmedSons sons = Check.read("w92;c,j");
        check.due("nights(1, 0, 0)", sons.nights(1, 0, 0), 0);
        check.due("nights(1, 0, 2)", sons.nights(1, 0, 2), 12345);
        check.due("nights(1, 0, -1)", sons.nights(1, 0, -1), OUTSIDE);
        check.due("nights(1, 0, 3)", sons.nights(1, 0, 3), OUTSIDE);
        for (int what : FAR_OFF) {
            check.due("nights(1, 0, " + what + ")", sons.nights(1, 0, what), OUTSIDE);
        }
    }

    static void p19_no_dairy_is_state(Check check) {
        check.due("nights(1, 0, 0)", new SkimmedSons().nights(1, 0, 0), STATE);
        check.due("nights(60, 1, 2)", Check.write(new SkimmedSons(), "w11;c,c").nights(60, 1, 2), STATE);
    }

    static void p19_outside_comes_ahead_of_state(Check check) {
        SkimmedSons sons = new SkimmedSons();
        check.all("times, seed, what, with no dairy", OUTSIDE, () -> sons.nights(0, 0, 0), () -> sons.nights(61, 0, 0),
            () -> sons.nights(1, -1, 0), () -> sons.nights(1, 0, -1), () -> sons.nights(1, 0, 3));
    }

    static void p19_refused_or_told_changes_nothing(Check check) {
        check.refused("nights(61, 0, 0)", Check::busy, sons -> sons.nights(61, 0, 0), OUTSIDE);
        check.refused("nights(1, -1, 0)", Check::busy, sons -> sons.nights(1, -1, 0), OUTSIDE);
        check.refused("nights(1, 0, 3)", Check::busy, sons -> sons.nights(1, 0, 3), OUTSIDE);
        check.refused("nights(1, 0, 0)", SkimmedSons::new, sons -> sons.nights(1, 0, 0), STATE);
        check.tells("nights(60, 5, 0)", Check::busy, sons -> sons.nights(60, 5, 0));
        check.tells("nights(60, 5, 1)", Check::busy, sons -> sons.nights(60, 5, 1));
        check.tells("nights(60, 5, 2)", Check::busy, sons -> sons.nights(60, 5, 2));
    }

    static void p19_a_pan_with_nothing_on_it_is_drawn_but_not_skimmed(Check check) {
        SkimmedSons sons = Check.read("w00;c,j");
        for (int seed = 0; seed < 20; seed++) {
            check.due("film", sons.nights(60, seed, 0), 0);
            check.due("worth", sons.nights(60, seed, 1), 0);
        }
        nightsAre(check, sons, "w00;c,j", 60, 3);
    }

    static void p19_one_draw_if_an_hour_goes_by_three_if_one_skims(Check check) {
        SkimmedSons sons = Check.read("w09;c,j");
        for (int seed = 0; seed < 40; seed++) {
            boolean skims = nextOf(seed, 1) / 65536 % 2 == 1;
            check.due("nights(1, " + seed + ", 2)", sons.nights(1, seed, 2), nextOf(seed, skims ? 3 : 1));
        }
    }

    static void p19_the_child_is_drawn_ahead_of_the_pan(Check check) {
        for (int seed = 0; seed < 60; seed++) {
            nightsAre(check, Check.read("w09,w00,w00;s,h,h"), "w09,w00,w00;s,h,h", 1, seed);
        }
    }

    static void p19_each_number_of_children_and_of_pans(Check check) {
        for (String dairy : new String[] {"c73;h,s", "c73,w55;h,s,y", "c73,w55,f92;h,s,y,j", "c73;c,h,s,y,j"}) {
            SkimmedSons sons = Check.read(dairy);
            for (int seed = 100; seed < 120; seed++) {
                nightsAre(check, sons, dairy, 40, seed);
            }
        }
    }

    static void p19_what_they_had_ahead_does_not_count(Check check) {
        SkimmedSons sons = Check.read("w99;y,j", 3);
        sons.skim(1, 0);
        check.due("film had", sons.count(8), 1);
        // One draw, of 0: an hour.
        check.due("nights(1, 0, 0)", sons.nights(1, 0, 0), 0);
        check.due("nights(1, 0, 1)", sons.nights(1, 0, 1), 0);
    }

    private static long nextOf(long seed, int draws) {
        long now = seed;
        for (int i = 0; i < draws; i++) {
            now = (1103515245L * now + 12345L) % 2147483648L;
        }
        return now;
    }

    /** By doing, on another object that has read the same dairy, what the draws say. */
    private static void nightsAre(Check check, SkimmedSons sons, String dairy, int times, int seed) {
        SkimmedSons done = Check.read(dairy);
        long now = seed;
        for (int time = 0; time < times; time++) {
            now = nextOf(now, 1);
            if (now / 65536 % 2 == 0) {
                done.hour();
            } else {
                int child = (int) (nextOf(now, 1) / 65536 % done.count(1));
                now = nextOf(now, 2);
                done.skim(child, (int) (now / 65536 % done.count(0)));
            }
        }
        String call = dairy + ": nights(" + times + ", " + seed + ", ";
        check.due(call + "0)", sons.nights(times, seed, 0), done.count(8));
        check.due(call + "1)", sons.nights(times, seed, 1), done.count(7));
        check.due(call + "2)", sons.nights(times, seed, 2), now);
    }
}
