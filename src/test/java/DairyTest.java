/** Promises 1 to 8: the dairy; pans, children. */
public final class DairyTest {
    private static final Check CHECK = new Check("DairyTest");

    public static void main(String[] args) {
        newObject();
        letters();
        blank();
        faults();
        dairies();
        anotherDairy();
        pans();
        kinds();
        casts();
        CHECK.end();
    }

    private static void newObject() {
        SkimmedSons sons = new SkimmedSons();
        for (int what = 0; what <= 12; what++) {
            CHECK.due("new: count(" + what + ")", sons.count(what), 0);
        }
        CHECK.due("new: pan(0, 0)", sons.pan(0, 0), SkimmedSons.UNKNOWN);
        CHECK.due("new: child(0, 0)", sons.child(0, 0), SkimmedSons.UNKNOWN);
        CHECK.due("new: as(0, 0)", sons.as(0, 0), SkimmedSons.UNKNOWN);
        CHECK.due("new: skim(0, 0)", sons.skim(0, 0), SkimmedSons.UNKNOWN);
        CHECK.due("new: stir(0)", sons.stir(0), SkimmedSons.UNKNOWN);
        CHECK.due("new: pour(0, 99, 0)", sons.pour(0, 99, 0), SkimmedSons.UNKNOWN);
        CHECK.due("new: later(0, 99, 9)", sons.later(0, 99, 9), SkimmedSons.UNKNOWN);
        CHECK.due("new: plan(0, 9, 9)", sons.plan(0, 9, 9), SkimmedSons.UNKNOWN);
        CHECK.due("new: treaty(0, 1, 9)", sons.treaty(0, 1, 9), SkimmedSons.UNKNOWN);
        CHECK.due("new: odds(0, 9, 9, 9)", sons.odds(0, 9, 9, 9), SkimmedSons.UNKNOWN);
        CHECK.due("new: see(0, 1, 1)", sons.see(0, 1, 1), SkimmedSons.UNKNOWN);
        CHECK.due("new: forget()", sons.forget(), 0);
        CHECK.due("new: hour()", sons.hour(), SkimmedSons.STATE);
        CHECK.due("new: nights(1, 1, 0)", sons.nights(1, 1, 0), SkimmedSons.STATE);
        CHECK.due("new: nights(0, 1, 0)", sons.nights(0, 1, 0), SkimmedSons.OUTSIDE);
        CHECK.due("new: image()", sons.image(), SkimmedSons.STATE);
        CHECK.due("new: restore()", sons.restore(), SkimmedSons.STATE);
        CHECK.due("new: fault()", sons.fault(), 0);
        CHECK.due("new: blank()", sons.blank(), 0);
    }

    private static void letters() {
        SkimmedSons sons = new SkimmedSons();
        CHECK.due("letter(31)", sons.letter(31), SkimmedSons.OUTSIDE);
        CHECK.due("letter(127)", sons.letter(127), SkimmedSons.OUTSIDE);
        CHECK.due("letter(least)", sons.letter(Integer.MIN_VALUE), SkimmedSons.OUTSIDE);
        CHECK.due("letter(65536 + 'w')", sons.letter(65536 + 'w'), SkimmedSons.OUTSIDE);
        CHECK.due("letter(32)", sons.letter(32), 1);
        CHECK.due("letter(126)", sons.letter(126), 2);
        for (int i = 3; i <= 24; i++) {
            CHECK.due("letter " + i, sons.letter('x'), i);
        }
        CHECK.due("letter 25", sons.letter('x'), SkimmedSons.FULL);
        CHECK.due("letter 25, wrong too", sons.letter(31), SkimmedSons.OUTSIDE);
        CHECK.due("letters then", sons.count(10), 24);
    }

    private static void blank() {
        SkimmedSons sons = Check.write(new SkimmedSons(), "w11;c,c");
        CHECK.due("blank()", sons.blank(), 7);
        CHECK.due("blank() again", sons.blank(), 0);
        CHECK.due("letters then", sons.count(10), 0);
        CHECK.due("dairy() then", sons.dairy(), SkimmedSons.STATE);
        CHECK.due("the first letter", sons.letter('w'), 1);
    }

    private static void faultOf(String text, int want) {
        CHECK.due("fault of " + text, Check.write(new SkimmedSons(), text).fault(), want);
    }

    private static void faults() {
        faultOf("w", 1);
        faultOf("W", 0);
        faultOf("wa", 1);
        faultOf("w1:", 2);
        faultOf("w1/", 2);
        faultOf("w11", 3);
        faultOf("w111", 3);
        faultOf("c11,f22,w33", 11);
        faultOf("c11,f22,w33;", 12);
        faultOf("c11,f22,w33,", 11);
        faultOf("c11;;", 4);
        faultOf("c11,;", 4);
        faultOf("c11;f", 4);
        faultOf("c11;c", 5);
        faultOf("c11;cc", 5);
        faultOf("c11;c;", 5);
        faultOf("c11;c,h,s,y,j", 13);
        faultOf("c11;c,h,s,y,j,", 13);
        faultOf("c11;c,h,s,y,jc,c", 13);
        faultOf(" w11;c,c", 0);
    }

    private static void dairyOf(String text, int want) {
        SkimmedSons sons = Check.write(new SkimmedSons(), text);
        CHECK.due("dairy() of " + text, sons.dairy(), want);
        CHECK.due("letters behind dairy() of " + text, sons.count(10), want < 0 ? text.length() : 0);
        CHECK.due("read, of " + text, sons.count(11), want < 0 ? 0 : 1);
        CHECK.due("children, of " + text, sons.count(1), want < 0 ? 0 : want);
    }

    private static void dairies() {
        dairyOf("", SkimmedSons.STATE);
        dairyOf("w11", SkimmedSons.STATE);
        dairyOf("w11;", SkimmedSons.STATE);
        dairyOf("w11;c", SkimmedSons.STATE);
        dairyOf("w11;c,", SkimmedSons.STATE);
        dairyOf("w11;c,c,", SkimmedSons.STATE);
        dairyOf("w11;c,cx", SkimmedSons.STATE);
        dairyOf("w11,w11,w11,w11;c,c", SkimmedSons.STATE);
        dairyOf("w11;c,c,c,c,c,c", SkimmedSons.STATE);
        dairyOf("w11;c,c", 2);
        dairyOf("f90;j,j,j", 3);
        dairyOf("c09,w99;h,s,y,j", 4);
        dairyOf("c12,f34,w56;c,h,s,y,j", 5);
    }

    private static void anotherDairy() {
        SkimmedSons sons = Check.read("c53,w53;c,h,s");
        Check.hours(sons, 3);
        sons.skim(0, 0);
        Check.hours(sons, 4);
        sons.see(1, 2, 3);
        sons.treaty(0, 1, 0);
        sons.image();
        Check.write(sons, "f42;y,j");
        CHECK.due("the other: dairy()", sons.dairy(), 2);
        int[] want = {1, 2, 4, 0, 0, 2, 0, 0, 0, 0, 0, 2, 1};
        for (int what = 0; what < want.length; what++) {
            CHECK.due("the other: count(" + what + ")", sons.count(what), want[what]);
        }
        CHECK.due("the other: pan(0, 4)", sons.pan(0, 4), 2);
        CHECK.due("the other: pan(0, 5)", sons.pan(0, 5), 0);
        CHECK.due("the other: pan(1, 0)", sons.pan(1, 0), SkimmedSons.UNKNOWN);
        CHECK.due("the other: child(0, 0)", sons.child(0, 0), 3);
        CHECK.due("the other: child(0, 2)", sons.child(0, 2), 0);
        CHECK.due("the other: child(2, 0)", sons.child(2, 0), SkimmedSons.UNKNOWN);
        CHECK.due("the other: restore()", sons.restore(), SkimmedSons.STATE);
        Check.write(sons, "f4");
        CHECK.due("no other: dairy()", sons.dairy(), SkimmedSons.STATE);
        CHECK.due("no other: count(0)", sons.count(0), 1);
        CHECK.due("no other: letters", sons.count(10), 2);
    }

    private static void panIs(SkimmedSons sons, String when, int pan, int... want) {
        for (int what = 0; what < want.length; what++) {
            CHECK.due(when + ": pan(" + pan + ", " + what + ")", sons.pan(pan, what), want[what]);
        }
    }

    private static void pans() {
        SkimmedSons sons = Check.read("w90,c71,f40;c,c");
        panIs(sons, "at first", 0, 9, 0, 0, 0, 0, 0, SkimmedSons.NONE, 65535, 12);
        panIs(sons, "at first", 1, 7, 0, 0, 1, 1, 0, 3, 65535, 8);
        panIs(sons, "at first", 2, 4, 0, 0, 0, 2, 0, SkimmedSons.NONE, 65535, 5);
        sons.hour();
        panIs(sons, "in an hour", 0, 8, 1, 0, 0, 0, 1, 1);
        panIs(sons, "in an hour", 1, 5, 2, 0, 1, 1, 1, 1);
        panIs(sons, "in an hour", 2, 1, 3, 0, 0, 2, 1, 1);
        Check.hours(sons, 2);
        panIs(sons, "in three", 0, 6, 2, 1, 0, 0, 3, 2);
        panIs(sons, "in three", 1, 1, 5, 1, 1, 1, 3, 2);
        panIs(sons, "in three", 2, 0, 3, 1, 0, 2, 3, 2);
        Check.hours(sons, 3);
        panIs(sons, "in six", 2, 0, 2, 2, 0, 2, 6, 2);
        Check.hours(sons, 12);
        panIs(sons, "in eighteen", 2, 0, 0, 4, 0, 2, 18, 2);
        CHECK.due("pan(-1, 0)", sons.pan(-1, 0), SkimmedSons.UNKNOWN);
        CHECK.due("pan(3, 0)", sons.pan(3, 0), SkimmedSons.UNKNOWN);
        CHECK.due("pan(3, 9)", sons.pan(3, 9), SkimmedSons.UNKNOWN);
        CHECK.due("pan(2, 9)", sons.pan(2, 9), SkimmedSons.OUTSIDE);
        CHECK.due("pan(2, -1)", sons.pan(2, -1), SkimmedSons.OUTSIDE);
    }

    private static void kinds() {
        SkimmedSons sons = Check.read("w42;c,h,s,y,j");
        int[][] worths = {{2, 4, 1}, {4, 4, 0}, {1, 4, 2}, {2, 8, 1}, {0, 16, 0}};
        for (int child = 0; child < 5; child++) {
            CHECK.due("kind of " + child, sons.child(child, 0), child);
            for (int what = 1; what <= 3; what++) {
                CHECK.due("worth for " + child + " of " + what, sons.child(child, 10 + what), worths[child][what - 1]);
                CHECK.due("what " + child + " had at first", sons.child(child, what), 0);
            }
            CHECK.due("worth of " + child + " at first", sons.child(child, 4), 0);
        }
        Check.hours(sons, 3);
        for (int i = 0; i < 5; i++) {
            sons.skim(2, 0);
        }
        CHECK.due("cream that he had", sons.child(2, 1), 2);
        CHECK.due("film that he had", sons.child(2, 2), 1);
        CHECK.due("blue that he had", sons.child(2, 3), 2);
        CHECK.due("his worth", sons.child(2, 4), 2 + 4 + 4);
        for (int what : new int[] {-1, 5, 9, 10, 14}) {
            CHECK.due("child(0, " + what + ")", sons.child(0, what), SkimmedSons.OUTSIDE);
            CHECK.due("child(5, " + what + ")", sons.child(5, what), SkimmedSons.UNKNOWN);
        }
        CHECK.due("child(-1, 0)", sons.child(-1, 0), SkimmedSons.UNKNOWN);
    }

    private static void casts() {
        SkimmedSons sons = Check.read("w42;c,h,s,y,j");
        String[] are = {"c", "ch", "cs", "cy", "cyj"};
        for (int child = 0; child < 5; child++) {
            for (int kind = 0; kind < 5; kind++) {
                boolean is = are[child].indexOf("chsyj".charAt(kind)) >= 0;
                CHECK.due("as(" + child + ", " + kind + ")", sons.as(child, kind), is ? child : SkimmedSons.NONE);
            }
            CHECK.due("as(" + child + ", 5)", sons.as(child, 5), SkimmedSons.OUTSIDE);
            CHECK.due("as(" + child + ", -1)", sons.as(child, -1), SkimmedSons.OUTSIDE);
        }
        CHECK.due("as(5, 5)", sons.as(5, 5), SkimmedSons.UNKNOWN);
        CHECK.due("as(-1, 0)", sons.as(-1, 0), SkimmedSons.UNKNOWN);
    }
}
