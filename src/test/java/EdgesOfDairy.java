/** Boundary cases of promises 1 to 5: a new object, letter, blank, fault, dairy. */
final class EdgesOfDairy {
    private static final int UNKNOWN = SkimmedSons.UNKNOWN, OUTSIDE = SkimmedSons.OUTSIDE, STATE = SkimmedSons.STATE,
        FULL = SkimmedSons.FULL;
    private static final String LONGEST = "c12,f34,w56;c,h,s,y,j";
    private static final String FULL_PAGE = "w11;c,c                 ";

    private EdgesOfDairy() {
    }

    // ---- 1, a new object

    static void p01_no_dairy_count_tells_0_of_all(Check check) {
        SkimmedSons sons = new SkimmedSons();
        for (int what = 0; what <= 12; what++) {
            check.due("count(" + what + ")", sons.count(what), 0);
        }
    }

    static void p01_no_dairy_no_number_names_a_pan(Check check) {
        SkimmedSons sons = new SkimmedSons();
        check.all("pan, stir, pour, later, odds, see", UNKNOWN, () -> sons.pan(0, 0), () -> sons.stir(0),
            () -> sons.pour(0, 0, 0), () -> sons.later(0, 0, 0), () -> sons.odds(0, 1, 0, 0), () -> sons.see(0, 1, 0));
    }

    static void p01_no_dairy_no_number_names_a_child(Check check) {
        SkimmedSons sons = new SkimmedSons();
        check.all("child, as, skim, plan, treaty", UNKNOWN, () -> sons.child(0, 0), () -> sons.as(0, 0),
            () -> sons.skim(0, 0), () -> sons.plan(0, 1, 0), () -> sons.treaty(0, 1, 0));
    }

    static void p01_no_dairy_is_told_as_state(Check check) {
        SkimmedSons sons = new SkimmedSons();
        check.all("dairy, hour, nights, image, restore", STATE, sons::dairy, sons::hour, () -> sons.nights(1, 0, 0),
            sons::image, sons::restore);
    }

    static void p01_no_letters_and_nothing_seen(Check check) {
        SkimmedSons sons = new SkimmedSons();
        check.all("fault, blank, forget", 0, sons::fault, sons::blank, sons::forget);
    }

    static void p01_one_object_knows_nothing_of_another(Check check) {
        SkimmedSons sons = new SkimmedSons();
        Check.busy();
        check.alike("beside another one", sons, new SkimmedSons());
    }

    // ---- 2, letter

    static void p02_code_32_is_the_least_that_is_taken(Check check) {
        check.due("letter(32)", new SkimmedSons().letter(32), 1);
    }

    static void p02_code_31_is_outside(Check check) {
        check.due("letter(31)", new SkimmedSons().letter(31), OUTSIDE);
    }

    static void p02_code_126_is_the_most_that_is_taken(Check check) {
        check.due("letter(126)", new SkimmedSons().letter(126), 1);
    }

    static void p02_code_127_is_outside(Check check) {
        check.due("letter(127)", new SkimmedSons().letter(127), OUTSIDE);
    }

    static void p02_codes_far_off_are_outside(Check check) {
        SkimmedSons sons = new SkimmedSons();
        for (int code : new int[] {Integer.MIN_VALUE, -1, 0, 10, 128, 255, 65536 + 'w', Integer.MAX_VALUE}) {
            check.due("letter(" + code + ")", sons.letter(code), OUTSIDE);
        }
    }

    static void p02_every_code_from_32_to_126_is_kept_as_it_is(Check check) {
        for (int code = 32; code <= 126; code++) {
            SkimmedSons sons = new SkimmedSons();
            check.due("letter(" + code + ")", sons.letter(code), 1);
            long h = 31 * 1213L + code;
            for (int what = 0; what <= 12; what++) {
                h = 31 * h + (what == 10 ? 1 : 0);
            }
            check.due("digest() with code " + code, sons.digest(), h);
        }
    }

    static void p02_letter_24_is_the_last_that_is_taken(Check check) {
        SkimmedSons sons = Check.write(new SkimmedSons(), FULL_PAGE.substring(0, 23));
        check.due("letter 24", sons.letter('x'), 24);
    }

    static void p02_letter_25_is_full(Check check) {
        SkimmedSons sons = Check.write(new SkimmedSons(), FULL_PAGE);
        check.due("letter 25", sons.letter('x'), FULL);
    }

    static void p02_outside_comes_ahead_of_full(Check check) {
        SkimmedSons sons = Check.write(new SkimmedSons(), FULL_PAGE);
        check.due("letter(31)", sons.letter(31), OUTSIDE);
        check.due("letter(127)", sons.letter(127), OUTSIDE);
    }

    static void p02_refused_as_outside_changes_nothing(Check check) {
        check.refused("letter(31)", Check::busy, sons -> sons.letter(31), OUTSIDE);
        check.refused("letter(127)", Check::busy, sons -> sons.letter(127), OUTSIDE);
    }

    static void p02_refused_as_full_changes_nothing(Check check) {
        check.refused("letter 25", () -> Check.write(new SkimmedSons(), FULL_PAGE), sons -> sons.letter('w'), FULL);
        check.refused("letter 25", () -> Check.write(Check.busy(), FULL_PAGE), sons -> sons.letter('w'), FULL);
    }

    static void p02_a_full_page_takes_letters_again_once_it_is_blank(Check check) {
        SkimmedSons sons = Check.write(new SkimmedSons(), FULL_PAGE);
        sons.blank();
        check.due("letter 1", sons.letter('x'), 1);
    }

    // ---- 3, blank

    static void p03_an_empty_page_had_0(Check check) {
        check.due("blank()", new SkimmedSons().blank(), 0);
    }

    static void p03_a_page_of_one_letter_had_1(Check check) {
        check.due("blank()", Check.write(new SkimmedSons(), "x").blank(), 1);
    }

    static void p03_a_full_page_had_24(Check check) {
        SkimmedSons sons = Check.write(new SkimmedSons(), FULL_PAGE);
        sons.letter('x');
        check.due("blank()", sons.blank(), 24);
    }

    static void p03_blank_twice_had_0_the_second_time(Check check) {
        SkimmedSons sons = Check.write(new SkimmedSons(), "w11");
        sons.blank();
        check.due("count(10)", sons.count(10), 0);
        check.due("blank()", sons.blank(), 0);
    }

    static void p03_a_page_that_was_read_had_0(Check check) {
        check.due("blank()", Check.read("w11;c,c").blank(), 0);
    }

    static void p03_the_page_alone_is_changed(Check check) {
        SkimmedSons sons = Check.busy();
        sons.blank();
        Check.write(sons, "w12;c");
        check.alike("blank and written again", sons, Check.busy());
    }

    // ---- 4, fault

    /** The letters that a dairy can have behind a text. */
    private static void takes(Check check, String text, String letters) {
        for (int code = 32; code <= 126; code++) {
            SkimmedSons sons = Check.write(new SkimmedSons(), text);
            sons.letter(code);
            int want = letters.indexOf(code) >= 0 ? text.length() + 1 : text.length();
            check.due("fault() of " + text + (char) code, sons.fault(), want);
        }
    }

    static void p04_an_empty_page_has_0(Check check) {
        check.due("fault()", new SkimmedSons().fault(), 0);
        check.due("fault() behind dairy()", Check.read("w11;c,c").fault(), 0);
    }

    static void p04_first_is_a_sill(Check check) {
        takes(check, "", "wcf");
    }

    static void p04_behind_a_sill_is_fat_from_0_to_9(Check check) {
        takes(check, "w", "0123456789");
        takes(check, "w11,f", "0123456789");
    }

    static void p04_behind_fat_is_blue_from_0_to_9(Check check) {
        takes(check, "c0", "0123456789");
        takes(check, "c00,w99,f9", "0123456789");
    }

    static void p04_behind_pan_1_and_2_is_another_or_the_children(Check check) {
        takes(check, "w11", ",;");
        takes(check, "w11,c22", ",;");
    }

    static void p04_behind_pan_3_are_the_children_and_no_pan_4(Check check) {
        takes(check, "w11,c22,f33", ";");
    }

    static void p04_behind_a_comma_of_pans_is_a_sill(Check check) {
        takes(check, "w11,", "wcf");
        takes(check, "w11,c22,", "wcf");
    }

    static void p04_behind_the_pans_is_a_kind(Check check) {
        takes(check, "w11;", "chsyj");
        takes(check, "w11,c22,f33;", "chsyj");
    }

    static void p04_behind_child_1_to_4_is_a_comma(Check check) {
        takes(check, "w11;c", ",");
        takes(check, "w11;c,h", ",");
        takes(check, "w11;c,h,s", ",");
        takes(check, "w11;c,h,s,y", ",");
    }

    static void p04_behind_a_comma_of_children_is_a_kind(Check check) {
        takes(check, "w11;c,", "chsyj");
        takes(check, "w11;c,h,s,y,", "chsyj");
    }

    static void p04_behind_child_5_is_nothing(Check check) {
        takes(check, "w11;c,h,s,y,j", "");
        takes(check, LONGEST, "");
    }

    static void p04_of_several_wrong_letters_the_first_is_told(Check check) {
        check.due("fault() of w1xyz", Check.write(new SkimmedSons(), "w1xyz").fault(), 2);
        check.due("fault() of xw11;c,c", Check.write(new SkimmedSons(), "xw11;c,c").fault(), 0);
    }

    static void p04_a_page_that_only_is_not_at_its_end_has_no_fault(Check check) {
        for (int length = 0; length <= LONGEST.length(); length++) {
            String text = LONGEST.substring(0, length);
            check.due("fault() of " + text, Check.write(new SkimmedSons(), text).fault(), length);
        }
    }

    static void p04_a_full_page_has_a_fault_at_place_21_at_last(Check check) {
        check.due("fault()", Check.write(new SkimmedSons(), LONGEST + ",c;").fault(), 21);
        check.due("fault()", Check.write(new SkimmedSons(), FULL_PAGE).fault(), 7);
    }

    static void p04_asking_changes_nothing(Check check) {
        check.tells("fault()", Check::busy, SkimmedSons::fault);
    }

    // ---- 5, dairy

    private static void reads(Check check, String text, int children, int pans) {
        SkimmedSons sons = Check.write(new SkimmedSons(), text);
        check.due("dairy() of " + text, sons.dairy(), children);
        check.due("pans of " + text, sons.count(0), pans);
        check.due("children of " + text, sons.count(1), children);
    }

    private static void isNone(Check check, String text) {
        check.refused("dairy() of " + text, () -> Check.write(new SkimmedSons(), text), SkimmedSons::dairy, STATE);
    }

    static void p05_one_pan_is_the_fewest(Check check) {
        reads(check, "w11;c,c", 2, 1);
    }

    static void p05_no_pan_is_none(Check check) {
        isNone(check, ";c,c");
        isNone(check, "c,c");
    }

    static void p05_three_pans_are_the_most(Check check) {
        reads(check, "w11,c22,f33;c,c", 2, 3);
    }

    static void p05_four_pans_are_none(Check check) {
        isNone(check, "w11,c22,f33,w44;c,c");
    }

    static void p05_two_children_are_the_fewest(Check check) {
        reads(check, "w11;h,j", 2, 1);
    }

    static void p05_one_child_is_none(Check check) {
        isNone(check, "w11;c");
        isNone(check, "w11,c22,f33;j");
    }

    static void p05_five_children_are_the_most(Check check) {
        reads(check, "w11;c,h,s,y,j", 5, 1);
        reads(check, LONGEST, 5, 3);
    }

    static void p05_six_children_are_none(Check check) {
        isNone(check, "w11;c,h,s,y,j,c");
    }

    static void p05_fat_and_blue_from_0_to_9_on_each_sill(Check check) {
        for (int number = 0; number < 300; number++) {
            int sill = number / 100;
            int fat = number / 10 % 10;
            int blue = number % 10;
            SkimmedSons sons = Check.read("" + "wcf".charAt(sill) + fat + blue + ";c,c");
            check.due("fat of " + number, sons.pan(0, 0), fat);
            check.due("blue of " + number, sons.pan(0, 3), blue);
            check.due("sill of " + number, sons.pan(0, 4), sill);
        }
    }

    static void p05_each_pan_and_child_is_read_from_its_place(Check check) {
        SkimmedSons sons = Check.read("c12,f34,w56;j,y,s,h,c");
        int[][] pans = {{1, 1, 2}, {2, 3, 4}, {0, 5, 6}};
        for (int pan = 0; pan < 3; pan++) {
            check.due("sill of " + pan, sons.pan(pan, 4), pans[pan][0]);
            check.due("fat of " + pan, sons.pan(pan, 0), pans[pan][1]);
            check.due("blue of " + pan, sons.pan(pan, 3), pans[pan][2]);
        }
        for (int child = 0; child < 5; child++) {
            check.due("kind of " + child, sons.child(child, 0), 4 - child);
        }
    }

    static void p05_an_empty_page_is_none(Check check) {
        isNone(check, "");
        check.refused("dairy()", () -> Check.read("w11;c,c"), SkimmedSons::dairy, STATE);
    }

    static void p05_every_page_short_of_its_end_is_none(Check check) {
        for (int length = 0; length < LONGEST.length(); length++) {
            String text = LONGEST.substring(0, length);
            if (length >= 15 && length % 2 == 1) {
                reads(check, text, (length - 11) / 2, 3);
            } else {
                isNone(check, text);
            }
        }
    }

    static void p05_a_letter_too_many_is_none(Check check) {
        for (String more : new String[] {" ", ",", ";", "c", ",x"}) {
            isNone(check, "w11;c,c" + more);
        }
        isNone(check, " w11;c,c");
        isNone(check, FULL_PAGE);
    }

    static void p05_refused_changes_nothing(Check check) {
        check.refused("dairy() of w12;c", Check::busy, SkimmedSons::dairy, STATE);
    }

    static void p05_a_refused_page_can_be_written_on(Check check) {
        SkimmedSons sons = Check.write(new SkimmedSons(), "w11;c");
        sons.dairy();
        check.due("letter 6", sons.letter(','), 6);
        check.due("letter 7", sons.letter('j'), 7);
        check.due("dairy()", sons.dairy(), 2);
    }

    static void p05_the_page_is_empty_then(Check check) {
        SkimmedSons sons = Check.read(LONGEST);
        check.due("count(10)", sons.count(10), 0);
        check.due("letter 1", sons.letter('w'), 1);
    }

    static void p05_another_one_is_gone_with_all_that_was(Check check) {
        SkimmedSons sons = Check.write(Check.busy(), ",h");
        check.due("dairy()", sons.dairy(), 2);
        int[] want = {1, 2, 1, 0, 0, 2, 0, 0, 0, 0, 0, 2, 1};
        for (int what = 0; what < want.length; what++) {
            check.due("count(" + what + ")", sons.count(what), want[what]);
        }
        check.due("still", sons.pan(0, 5), 0);
        check.due("fats", sons.pan(0, 7), 65535);
        check.due("pan 1", sons.pan(1, 0), UNKNOWN);
        check.due("child 2", sons.child(2, 0), UNKNOWN);
        for (int what = 1; what <= 4; what++) {
            check.due("child(0, " + what + ")", sons.child(0, what), 0);
        }
        check.due("restore()", sons.restore(), STATE);
    }

    static void p05_another_one_can_have_more_pans_and_children(Check check) {
        SkimmedSons sons = Check.write(Check.read("w11;c,c", 5), LONGEST);
        check.due("dairy()", sons.dairy(), 5);
        check.due("blue of pan 2", sons.pan(2, 3), 6);
        check.due("kind of child 4", sons.child(4, 0), 4);
    }

    static void p05_the_same_text_again_is_another_one(Check check) {
        SkimmedSons sons = Check.write(Check.read("w11;c,c", 3), "w11;c,c");
        check.due("dairy()", sons.dairy(), 2);
        check.due("hours", sons.count(6), 0);
        check.due("film", sons.count(4), 0);
        check.due("how often", sons.count(11), 2);
    }

    static void p05_as_many_as_512_calls_can_read(Check check) {
        SkimmedSons sons = new SkimmedSons();
        for (int read = 1; read <= 63; read++) {
            check.due("dairy() " + read, Check.write(sons, "f90;c,c").dairy(), 2);
        }
        check.due("how often", sons.count(11), 63);
    }
}
