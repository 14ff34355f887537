import java.math.BigInteger;
import java.util.ArrayList;
import java.util.List;

/** Boundary cases of promises 20 to 23: image, restore, count, digest. */
final class EdgesOfWhole {
    private static final int UNKNOWN = SkimmedSons.UNKNOWN, OUTSIDE = SkimmedSons.OUTSIDE, STATE = SkimmedSons.STATE;

    private EdgesOfWhole() {
    }

    // ---- 20, image

    static void p20_no_dairy_is_state_and_changes_nothing(Check check) {
        check.refused("image()", SkimmedSons::new, SkimmedSons::image, STATE);
        check.refused("image()", () -> Check.write(new SkimmedSons(), "w11;c,c"), SkimmedSons::image, STATE);
    }

    static void p20_an_image_of_hour_0_tells_0(Check check) {
        SkimmedSons sons = Check.read("w92;c,j");
        check.due("image()", sons.image(), 0);
        sons.hour();
        check.due("restore()", sons.restore(), 0);
        check.due("hours", sons.count(6), 0);
    }

    static void p20_keeping_changes_nothing_else(Check check) {
        SkimmedSons sons = Check.busy();
        check.due("image()", sons.image(), 6);
        check.due("digest()", sons.digest(), Check.busy().digest());
    }

    static void p20_of_two_images_the_latest_is_kept(Check check) {
        SkimmedSons sons = Check.read("w92;c,j", 2);
        sons.image();
        sons.hour();
        check.due("image()", sons.image(), 3);
        long latest = sons.digest();
        sons.hour();
        check.due("restore()", sons.restore(), 3);
        check.due("digest()", sons.digest(), latest);
        check.due("restore() again", sons.restore(), 3);
    }

    static void p20_what_comes_behind_does_not_go_into_it(Check check) {
        SkimmedSons sons = Check.read("w92,f55;c,j", 2);
        sons.see(0, 1, 1);
        sons.image();
        long kept = sons.digest();
        sons.skim(0, 0);
        sons.skim(1, 1);
        sons.stir(1);
        sons.pour(0, 1, 1);
        sons.forget();
        sons.hour();
        sons.restore();
        check.due("digest()", sons.digest(), kept);
    }

    // ---- 21, restore

    static void p21_none_was_kept_is_state_and_changes_nothing(Check check) {
        check.refused("restore()", SkimmedSons::new, SkimmedSons::restore, STATE);
        check.refused("restore()", () -> Check.read("f92;c,j", 4), SkimmedSons::restore, STATE);
    }

    static void p21_a_refused_image_keeps_none(Check check) {
        SkimmedSons sons = new SkimmedSons();
        sons.image();
        Check.write(sons, "f92;c,j").dairy();
        check.due("restore()", sons.restore(), STATE);
    }

    static SkimmedSons withAnotherDairy() {
        SkimmedSons sons = Check.read("f92;c,j", 4);
        sons.image();
        Check.write(sons, "c55,w33;s,y,h").dairy();
        Check.hours(sons, 2);
        return sons;
    }

    static void p21_another_dairy_since_is_state_and_changes_nothing(Check check) {
        check.refused("restore()", EdgesOfWhole::withAnotherDairy, SkimmedSons::restore, STATE);
    }

    static void p21_the_same_text_read_again_is_another_dairy(Check check) {
        SkimmedSons sons = Check.read("f92;c,j", 4);
        sons.image();
        Check.write(sons, "f92;c,j").dairy();
        check.due("restore()", sons.restore(), STATE);
    }

    static void p21_an_image_of_the_other_dairy_is_one_again(Check check) {
        SkimmedSons sons = withAnotherDairy();
        check.due("image()", sons.image(), 2);
        sons.hour();
        check.due("restore()", sons.restore(), 2);
        check.due("pans", sons.count(0), 2);
        check.due("children", sons.count(1), 3);
    }

    static void p21_a_page_that_is_no_dairy_or_not_read_leaves_the_image(Check check) {
        SkimmedSons sons = Check.read("f92;c,j", 4);
        sons.image();
        Check.write(sons, "w11;c").dairy();
        check.due("restore() behind a refused dairy()", sons.restore(), 4);
        Check.write(sons, ",c");
        check.due("restore() ahead of dairy()", sons.restore(), 4);
    }

    static void p21_at_once_behind_image_it_changes_nothing(Check check) {
        SkimmedSons sons = Check.busy();
        sons.image();
        check.due("restore()", sons.restore(), 6);
        check.due("digest()", sons.digest(), Check.busy().digest());
    }

    static void p21_it_can_be_gone_on_from_again_and_again(Check check) {
        SkimmedSons sons = Check.read("f92,w11;c,j", 4);
        sons.image();
        long kept = sons.digest();
        for (int i = 0; i < 3; i++) {
            sons.skim(0, 0);
            Check.hours(sons, 2);
            sons.see(0, 1, 1);
            check.due("restore() " + i, sons.restore(), 4);
            check.due("digest() " + i, sons.digest(), kept);
        }
    }

    static void p21_what_is_in_every_pan_comes_back(Check check) {
        SkimmedSons sons = Check.read("c72,f93,w54;c,j", 4);
        int[][] kept = new int[3][6];
        for (int pan = 0; pan < 3; pan++) {
            for (int what = 0; what < 6; what++) {
                kept[pan][what] = sons.pan(pan, what);
            }
        }
        sons.image();
        for (int pan = 0; pan < 3; pan++) {
            sons.stir(pan);
            sons.pour(pan, 1, 1);
        }
        sons.restore();
        for (int pan = 0; pan < 3; pan++) {
            for (int what = 0; what < 6; what++) {
                check.due("pan(" + pan + ", " + what + ")", sons.pan(pan, what), kept[pan][what]);
            }
        }
    }

    static void p21_how_long_pans_stood_still_comes_back(Check check) {
        SkimmedSons sons = Check.read("c90;c,j", 2);
        sons.image();
        sons.stir(0);
        sons.restore();
        check.due("still", sons.pan(0, 5), 2);
        sons.hour();
        check.due("film in hour 3", sons.pan(0, 2), 1);
    }

    static void p21_what_each_had_comes_back(Check check) {
        SkimmedSons sons = Check.read("w33,w33;c,h,s,y,j", 3);
        Check.skims(sons, 0, 0, 6);
        sons.image();
        Check.skims(sons, 0, 1, 2);
        Check.skims(sons, 4, 1, 2);
        check.due("the first has more", sons.child(0, 4), 2 * 2 + 4 + 3 + 4 + 2);
        sons.restore();
        int[] want = {0, 2, 1, 3, 2 * 2 + 4 + 3};
        for (int what = 1; what <= 4; what++) {
            check.due("child(0, " + what + ")", sons.child(0, what), want[what]);
            check.due("child(4, " + what + ")", sons.child(4, what), 0);
        }
    }

    static void p21_what_was_seen_comes_back(Check check) {
        SkimmedSons sons = Check.read("w92;c,j");
        sons.see(0, 12, 7);
        sons.image();
        sons.forget();
        for (int i = 0; i < 6; i++) {
            sons.see(0, 1, 0);
        }
        sons.restore();
        check.due("how much is seen", sons.count(9), 1);
        check.due("7", sons.pan(0, 7), 1 << 7);
    }

    static void p21_of_which_pan_it_was_seen_comes_back(Check check) {
        SkimmedSons sons = Check.read("w92,w92;c,j");
        sons.see(1, 12, 7);
        sons.image();
        sons.forget();
        sons.see(0, 12, 5);
        sons.restore();
        check.due("all fats of pan 0", sons.pan(0, 7), 65535);
        check.due("7 of pan 1", sons.pan(1, 7), 1 << 7);
    }

    static void p21_nothing_seen_comes_back_as_nothing(Check check) {
        SkimmedSons sons = Check.read("w92;c,j");
        sons.image();
        sons.see(0, 12, 7);
        sons.restore();
        check.due("how much is seen", sons.count(9), 0);
        check.due("all fats", sons.pan(0, 7), 65535);
    }

    static void p21_the_page_dairies_read_and_treaties_do_not_come_back(Check check) {
        SkimmedSons sons = Check.read("w92;c,j");
        sons.image();
        Check.write(sons, "w1");
        sons.treaty(0, 1, 0);
        sons.restore();
        check.due("letters", sons.count(10), 2);
        check.due("read", sons.count(11), 1);
        check.due("treaties", sons.count(12), 1);
    }

    // ---- 22, count

    static void p22_what_0_is_the_least_and_minus_1_outside(Check check) {
        SkimmedSons sons = Check.read("w92;c,j");
        check.due("count(0)", sons.count(0), 1);
        check.due("count(-1)", sons.count(-1), OUTSIDE);
        check.due("count(least)", sons.count(Integer.MIN_VALUE), OUTSIDE);
    }

    static void p22_what_12_is_the_most_and_13_outside(Check check) {
        SkimmedSons sons = Check.read("w92;c,j");
        sons.treaty(0, 1, 0);
        check.due("count(12)", sons.count(12), 1);
        check.due("count(13)", sons.count(13), OUTSIDE);
        check.due("count(most)", sons.count(Integer.MAX_VALUE), OUTSIDE);
    }

    static void p22_outside_with_no_dairy_too(Check check) {
        check.due("count(13)", new SkimmedSons().count(13), OUTSIDE);
        check.due("count(-1)", new SkimmedSons().count(-1), OUTSIDE);
    }

    static void p22_refused_or_told_changes_nothing(Check check) {
        check.refused("count(13)", Check::busy, sons -> sons.count(13), OUTSIDE);
        check.refused("count(-1)", Check::busy, sons -> sons.count(-1), OUTSIDE);
        for (int what = 0; what <= 12; what++) {
            int asked = what;
            check.tells("count(" + what + ")", Check::busy, sons -> sons.count(asked));
        }
    }

    static void p22_each_of_13_is_told_by_its_own_number(Check check) {
        SkimmedSons sons = Check.busy();
        int[] want = {3, 4, 0, 5 + 7 + 3, 1 + 1, 4 + 3 + 2, 6, 4 + 16 + 4 + 2, 3, 2, 5, 1, 1};
        for (int what = 0; what <= 12; what++) {
            check.due("count(" + what + ")", sons.count(what), want[what]);
        }
        sons.stir(0);
        check.due("fat of all", sons.count(2), 6);
        Check.write(sons, ",c").dairy();
        check.due("dairies", sons.count(11), 2);
    }

    static void p22_pans_1_to_3_and_children_2_to_5(Check check) {
        check.due("pans", Check.read("w11;c,c").count(0), 1);
        check.due("children", Check.read("w11;c,c").count(1), 2);
        check.due("pans", Check.read("w11,w11,w11;c,c,c,c,c").count(0), 3);
        check.due("children", Check.read("w11,w11,w11;c,c,c,c,c").count(1), 5);
    }

    static void p22_a_full_page_has_24_letters(Check check) {
        SkimmedSons sons = Check.write(new SkimmedSons(), "0123456789012345678901234567890");
        check.due("count(10)", sons.count(10), 24);
    }

    static void p22_worth_and_film_are_of_the_first_and_the_last_child_too(Check check) {
        SkimmedSons sons = Check.read("w90,w90;y,c,c,c,j", 3);
        sons.skim(0, 0);
        sons.skim(4, 1);
        check.due("count(7)", sons.count(7), 8 + 16);
        check.due("count(8)", sons.count(8), 2);
    }

    // ---- 23, digest

    private static long over(long... numbers) {
        long h = 1213;
        for (long number : numbers) {
            h = 31 * h + number;
        }
        return h;
    }

    static void p23_no_dairy_and_no_letters_is_over_13_nothings(Check check) {
        check.due("digest()", new SkimmedSons().digest(), over(0, 0, 0, 0, 0, 0, 0, 0, 0, 0, 0, 0, 0));
    }

    static void p23_letters_count_by_their_codes_in_order(Check check) {
        SkimmedSons sons = Check.write(new SkimmedSons(), " ~");
        check.due("digest()", sons.digest(), over(32, 126, 0, 0, 0, 0, 0, 0, 0, 0, 0, 0, 2, 0, 0));
        sons.blank();
        Check.write(sons, "~ ");
        check.due("digest()", sons.digest(), over(126, 32, 0, 0, 0, 0, 0, 0, 0, 0, 0, 0, 2, 0, 0));
    }

    static void p23_one_pan_and_two_children_number_by_number(Check check) {
        SkimmedSons sons = Check.read("w12;c,j");
        check.due("digest()", sons.digest(), over(
            1, 0, 0, 2, 0, 0, 3, 65535, 12,
            0, 0, 1, 2,
            3, 16,
            0, 0, 0, 0, 0, 2, 4, 1,
            3, 0, 0,
            4, 0, 0, 0, 0, 0, 16, 0,
            0, 0, 0,
            1, 2, 1, 0, 0, 2, 0, 0, 0, 0, 0, 1, 0));
    }

    static void p23_refusals_and_none_go_in_as_they_are_told(Check check) {
        SkimmedSons sons = Check.read("w00;h,s");
        sons.see(0, 1, 40);
        check.due("digest()", sons.digest(), over(
            0, 0, 0, 0, 0, 0, -1, 0, -1,
            0, 0, 0, 0,
            0, 1,
            1, 0, 0, 0, 0, 4, 4, 0,
            0, -1, -1,
            2, 0, 0, 0, 0, 1, 4, 2,
            0, -1, -1,
            1, 2, 0, 0, 0, 0, 0, 0, 0, 1, 0, 1, 0));
    }

    static void p23_it_wraps_over_the_most_pans_children_and_letters(Check check) {
        SkimmedSons sons = Check.write(Check.read("c12,f34,w56;c,h,s,y,j", 2), "000000000000000000000000");
        BigInteger h = BigInteger.valueOf(1213);
        for (long number : numbersOf(sons, "000000000000000000000000")) {
            h = h.multiply(BigInteger.valueOf(31)).add(BigInteger.valueOf(number));
        }
        check.due("digest()", sons.digest(), h.longValue());
    }

    private static long[] numbersOf(SkimmedSons sons, String page) {
        List<Integer> told = new ArrayList<>();
        for (int pan = 0; sons.pan(pan, 0) != UNKNOWN; pan++) {
            for (int what = 0; what <= 8; what++) {
                told.add(sons.pan(pan, what));
            }
            for (int what = 0; what <= 3; what++) {
                told.add(sons.later(pan, 7, what));
            }
            told.add(sons.odds(pan, 4, 5, 0));
            told.add(sons.odds(pan, 4, 5, 1));
        }
        for (int child = 0; sons.child(child, 0) != UNKNOWN; child++) {
            for (int what : new int[] {0, 1, 2, 3, 4, 11, 12, 13}) {
                told.add(sons.child(child, what));
            }
            for (int what : new int[] {0, 10, 11}) {
                told.add(sons.plan(child, 2, what));
            }
        }
        page.chars().forEach(told::add);
        for (int what = 0; what <= 12; what++) {
            told.add(sons.count(what));
        }
        return told.stream().mapToLong(number -> number).toArray();
    }

    static void p23_later_is_of_7_hours_odds_of_4_and_5_plan_of_2(Check check) {
        for (int hour = 0; hour < 6; hour++) {
            SkimmedSons sons = Check.read("w90,w90,w01;c,s,y,j", hour);
            check.due("digest() in hour " + hour, sons.digest(), over(numbersOf(sons, "")));
        }
    }

    static void p23_asking_changes_nothing_and_does_no_treaty(Check check) {
        SkimmedSons sons = Check.busy();
        long first = sons.digest();
        check.due("digest() again", sons.digest(), first);
        check.due("treaties", sons.count(12), 1);
        check.alike("behind digest()", sons, Check.busy());
    }
}
