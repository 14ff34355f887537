/** Promises 13 to 16: what would be. */
public final class WouldBeTest {
    private static final Check CHECK = new Check("WouldBeTest");

    public static void main(String[] args) {
        laters();
        plans();
        planEdges();
        treaties();
        treatyEdges();
        odds();
        oddsEdges();
        CHECK.end();
    }

    private static void laters() {
        SkimmedSons sons = Check.read("f74,w21;c,c");
        int[][] want = {{7, 0, 0, 4}, {4, 3, 0, 4}, {1, 6, 0, 4}, {0, 6, 1, 4}, {0, 6, 1, 4}, {0, 6, 1, 4}, {0, 5, 2, 4}};
        for (int hours = 0; hours < want.length; hours++) {
            for (int what = 0; what < 4; what++) {
                CHECK.due("later(0, " + hours + ", " + what + ")", sons.later(0, hours, what), want[hours][what]);
            }
        }
        CHECK.due("later(0, 20, 2)", sons.later(0, 20, 2), 6);
        CHECK.due("later(0, 40, 2)", sons.later(0, 40, 2), 7);
        CHECK.due("later(1, 40, 1)", sons.later(1, 40, 1), 0);
        CHECK.due("it is now as it was", sons.pan(0, 0), 7);
        CHECK.due("it is this hour", sons.count(6), 0);
        Check.hours(sons, 2);
        CHECK.due("it stood still: later(0, 1, 2)", sons.later(0, 1, 2), 1);
        CHECK.due("later(2, 41, 0)", sons.later(2, 41, 0), SkimmedSons.UNKNOWN);
        CHECK.due("later(-1, 0, 0)", sons.later(-1, 0, 0), SkimmedSons.UNKNOWN);
        CHECK.due("later(0, 41, 0)", sons.later(0, 41, 0), SkimmedSons.OUTSIDE);
        CHECK.due("later(0, -1, 0)", sons.later(0, -1, 0), SkimmedSons.OUTSIDE);
        CHECK.due("later(0, 0, 4)", sons.later(0, 0, 4), SkimmedSons.OUTSIDE);
        CHECK.due("later(0, 0, -1)", sons.later(0, 0, -1), SkimmedSons.OUTSIDE);
    }

    private static void planIs(SkimmedSons sons, int child, int hours, int... want) {
        CHECK.due("plan(" + child + ", " + hours + ", 0)", sons.plan(child, hours, 0), want[0]);
        for (int step = 1; step < want.length; step++) {
            int what = 9 + step;
            CHECK.due("plan(" + child + ", " + hours + ", " + what + ")", sons.plan(child, hours, what), want[step]);
        }
    }

    private static void plans() {
        int none = SkimmedSons.NONE;
        SkimmedSons sons = Check.read("w30,c02;c,h,s,y,j");
        planIs(sons, 0, 1, 1, 1, none, none, none);
        planIs(sons, 0, 2, 3, 1, 0, none, none);
        planIs(sons, 1, 4, 12, 1, 0, 0, 0);
        planIs(sons, 2, 2, 4, 1, 1, none, none);
        // The heir has nothing by BLUE; he must take it in the first hour all the same.
        planIs(sons, 1, 1, 0, 1, none, none, none);
        // She is to skim while there is anything: after one blue she cannot leave pan 0 alone for long enough.
        planIs(sons, 4, 3, 0, 1, 0, 0, none);
        planIs(sons, 4, 4, 0, 1, 0, 0, 0);
        Check.hours(sons, 1);
        planIs(sons, 4, 3, 16, 1, 1, 0, none);
        // With an hour more she can disturb the first pan at once, and it still has time to stand.
        planIs(sons, 4, 4, 16, 0, 1, 1, 0);
        CHECK.due("nobody had anything", sons.count(7), 0);
        CHECK.due("the pans stand as they did", sons.pan(0, 5), 1);
    }

    private static void planEdges() {
        int none = SkimmedSons.NONE;
        SkimmedSons bare = Check.read("w90,w00;c,j");
        planIs(bare, 0, 1, 0, none, none, none, none);
        planIs(bare, 0, 2, 2, none, 0, none, none);
        SkimmedSons empty = Check.read("f00;c,c");
        planIs(empty, 1, 4, 0, none, none, none, none);
        SkimmedSons same = Check.read("w11,w11,w11;c,c");
        // Blue and cream of the first, cream of the second, and the film of the third by then.
        planIs(same, 0, 4, 1 + 2 + 2 + 4, 0, 0, 1, 2);
        CHECK.due("plan(2, 5, 1)", same.plan(2, 5, 1), SkimmedSons.UNKNOWN);
        CHECK.due("plan(-1, 1, 0)", same.plan(-1, 1, 0), SkimmedSons.UNKNOWN);
        CHECK.due("plan(0, 0, 0)", same.plan(0, 0, 0), SkimmedSons.OUTSIDE);
        CHECK.due("plan(0, 5, 0)", same.plan(0, 5, 0), SkimmedSons.OUTSIDE);
        for (int what : new int[] {-1, 1, 9, 14}) {
            CHECK.due("plan(0, 1, " + what + ")", same.plan(0, 1, what), SkimmedSons.OUTSIDE);
        }
    }

    private static void treatyIs(SkimmedSons sons, int a, int b, int ahead, int pan) {
        CHECK.due("treaty(" + a + ", " + b + ", 0)", sons.treaty(a, b, 0), 1000 + ahead);
        CHECK.due("treaty(" + a + ", " + b + ", 1)", sons.treaty(a, b, 1), pan);
    }

    private static void treaties() {
        SkimmedSons blue = Check.read("w03;c,s,h");
        treatyIs(blue, 0, 1, 1 - 2 + 1, 0);
        treatyIs(blue, 1, 0, 2 - 1 + 2, 0);
        treatyIs(blue, 2, 0, -1, 0);
        // The second could have blue for 2 at once, but takes cream for 1: else the heir has it for 4.
        SkimmedSons two = Check.read("w11,w01;h,s");
        two.hour();
        treatyIs(two, 0, 1, 4 - 2 + 0, 0);
        treatyIs(two, 1, 0, 1 - 0 + 2, 0);
        CHECK.due("nothing is taken", two.count(5), 2);
        CHECK.due("no hour goes by", two.count(6), 1);
        CHECK.due("how often", two.count(12), 4);
        // One of two like pans: the least.
        SkimmedSons like = Check.read("w00,w01,w01;c,c");
        treatyIs(like, 0, 1, 0, 1);
        // Film on one, blue on the other.
        SkimmedSons film = Check.read("c20,w01;c,j");
        Check.hours(film, 3);
        film.skim(0, 0);
        Check.hours(film, 3);
        treatyIs(film, 0, 1, 4 - 0 + 0, 0);
        treatyIs(film, 1, 0, 16 - 1, 0);
        // As full as pans can be: thirty blue each.
        SkimmedSons full = Check.read("w09,w09,w09;c,s");
        for (int pan = 0; pan < 3; pan++) {
            full.pour(pan, 0, 9);
            full.pour(pan, 0, 2);
        }
        treatyIs(full, 0, 1, 30 - 60, 0);
        treatyIs(full, 1, 0, 60 - 30, 0);
    }

    private static void treatyEdges() {
        SkimmedSons sons = Check.read("f90;c,j");
        treatyIs(sons, 0, 1, 0, SkimmedSons.NONE);
        CHECK.due("treaty(0, 0, 9)", sons.treaty(0, 0, 9), SkimmedSons.UNKNOWN);
        CHECK.due("treaty(0, 2, 0)", sons.treaty(0, 2, 0), SkimmedSons.UNKNOWN);
        CHECK.due("treaty(2, 0, 0)", sons.treaty(2, 0, 0), SkimmedSons.UNKNOWN);
        CHECK.due("treaty(-1, 0, 0)", sons.treaty(-1, 0, 0), SkimmedSons.UNKNOWN);
        CHECK.due("treaty(0, 1, 2)", sons.treaty(0, 1, 2), SkimmedSons.OUTSIDE);
        CHECK.due("treaty(0, 1, -1)", sons.treaty(0, 1, -1), SkimmedSons.OUTSIDE);
        CHECK.due("the refused are not done", sons.count(12), 2);
        for (int i = 2; i < 40; i++) {
            CHECK.due("treaty " + i, sons.treaty(1, 0, 0), 1000);
        }
        CHECK.due("treaty 40", sons.treaty(1, 0, 0), SkimmedSons.STATE);
        CHECK.due("wrong ahead of 40", sons.treaty(1, 0, 2), SkimmedSons.OUTSIDE);
        Check.write(sons, "w11;c,c");
        sons.dairy();
        CHECK.due("40 in another dairy", sons.treaty(0, 1, 0), SkimmedSons.STATE);
        CHECK.due("how often", sons.count(12), 40);
    }

    private static void oddsAre(SkimmedSons sons, int hours, int tenths, int above, int below) {
        String call = "odds(0, " + hours + ", " + tenths + ", ";
        CHECK.due(call + "0)", sons.odds(0, hours, tenths, 0), above);
        CHECK.due(call + "1)", sons.odds(0, hours, tenths, 1), below);
    }

    private static void odds() {
        SkimmedSons sons = Check.read("w11;c,c");
        oddsAre(sons, 1, 10, 0, 1);
        oddsAre(sons, 2, 10, 0, 1);
        oddsAre(sons, 3, 10, 1, 1);
        oddsAre(sons, 3, 9, 729, 1000);
        oddsAre(sons, 4, 5, 3, 16);
        oddsAre(sons, 5, 5, 1, 4);
        oddsAre(sons, 8, 0, 0, 1);
        oddsAre(sons, 8, 1, runsOfThree(8, 1)[0], runsOfThree(8, 1)[1]);
        oddsAre(sons, 8, 9, runsOfThree(8, 9)[0], runsOfThree(8, 9)[1]);
        sons.hour();
        oddsAre(sons, 1, 10, 0, 1);
        oddsAre(sons, 2, 5, 1, 4);
        oddsAre(sons, 3, 5, 1, 4);
        sons.hour();
        oddsAre(sons, 1, 3, 3, 10);
        oddsAre(sons, 2, 5, 1, 2);
        oddsAre(sons, 4, 5, 9, 16);
        sons.hour();
        oddsAre(sons, 8, 10, 0, 1);
        CHECK.due("as it was", sons.pan(0, 5), 3);
    }

    /** By every night of still and other hours: how often three still ones follow each other. */
    private static int[] runsOfThree(int hours, int tenths) {
        long above = 0;
        long below = 1;
        for (int night = 0; night < 1 << hours; night++) {
            long ways = 1;
            boolean run = false;
            for (int hour = 0; hour < hours; hour++) {
                ways *= (night >> hour & 1) == 1 ? tenths : 10 - tenths;
                run |= (night >> hour & 7) == 7;
            }
            above += run ? ways : 0;
        }
        for (int hour = 0; hour < hours; hour++) {
            below *= 10;
        }
        for (int prime : new int[] {2, 5}) {
            while (above % prime == 0 && below % prime == 0) {
                above /= prime;
                below /= prime;
            }
        }
        return new int[] {(int) above, (int) below};
    }

    private static void oddsEdges() {
        SkimmedSons none = Check.read("w09;c,c");
        oddsAre(none, 8, 10, 0, 1);
        SkimmedSons asMuch = Check.read("w20;c,c");
        asMuch.hour();
        oddsAre(asMuch, 2, 10, 1, 1);
        CHECK.due("odds(1, 9, 0, 0)", none.odds(1, 9, 0, 0), SkimmedSons.UNKNOWN);
        CHECK.due("odds(-1, 1, 0, 0)", none.odds(-1, 1, 0, 0), SkimmedSons.UNKNOWN);
        CHECK.due("odds(0, 0, 0, 0)", none.odds(0, 0, 0, 0), SkimmedSons.OUTSIDE);
        CHECK.due("odds(0, 9, 0, 0)", none.odds(0, 9, 0, 0), SkimmedSons.OUTSIDE);
        CHECK.due("odds(0, 1, -1, 0)", none.odds(0, 1, -1, 0), SkimmedSons.OUTSIDE);
        CHECK.due("odds(0, 1, 11, 0)", none.odds(0, 1, 11, 0), SkimmedSons.OUTSIDE);
        CHECK.due("odds(0, 1, 1, 2)", none.odds(0, 1, 1, 2), SkimmedSons.OUTSIDE);
        CHECK.due("odds(0, 1, 1, -1)", none.odds(0, 1, 1, -1), SkimmedSons.OUTSIDE);
    }
}
