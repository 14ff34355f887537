/** Promises 9 to 12: what is done. */
public final class DoneTest {
    private static final Check CHECK = new Check("DoneTest");

    public static void main(String[] args) {
        hours();
        skims();
        enough();
        stirs();
        pours();
        CHECK.end();
    }

    private static void hours() {
        SkimmedSons sons = Check.read("w00,f91;c,c");
        for (int hour = 1; hour <= 400; hour++) {
            CHECK.due("hour " + hour, sons.hour(), hour);
        }
        CHECK.due("no fat: cream", sons.pan(0, 1), 0);
        CHECK.due("no fat: film", sons.pan(0, 2), 0);
        CHECK.due("no fat: still", sons.pan(0, 5), 400);
        CHECK.due("all fat is film", sons.pan(1, 2), 9);
        CHECK.due("blue is left", sons.pan(1, 3), 1);
        // Beyond 512 calls answers are free, but the limit should stand all the same.
        Check.hours(sons, 599);
        CHECK.due("hour 1000", sons.hour(), SkimmedSons.FULL);
        CHECK.due("hours then", sons.count(6), 999);
    }

    private static void skims() {
        SkimmedSons sons = Check.read("c52,w90;h,s");
        CHECK.due("skim(2, 2)", sons.skim(2, 2), SkimmedSons.UNKNOWN);
        CHECK.due("skim(-1, 0)", sons.skim(-1, 0), SkimmedSons.UNKNOWN);
        CHECK.due("skim(0, -1)", sons.skim(0, -1), SkimmedSons.UNKNOWN);
        CHECK.due("fat alone", sons.skim(0, 1), SkimmedSons.STATE);
        Check.hours(sons, 2);
        CHECK.due("fat alone: still", sons.pan(1, 5), 2);
        CHECK.due("cream", sons.skim(0, 0), 1);
        CHECK.due("cream left", sons.pan(0, 1), 3);
        CHECK.due("no more still", sons.pan(0, 5), 0);
        CHECK.due("the other is still", sons.pan(1, 5), 2);
        Check.hours(sons, 3);
        CHECK.due("film", sons.skim(1, 0), 2);
        CHECK.due("cream", sons.skim(1, 0), 1);
        CHECK.due("cream", sons.skim(1, 0), 1);
        CHECK.due("cream", sons.skim(1, 0), 1);
        CHECK.due("blue", sons.skim(1, 0), 3);
        CHECK.due("blue", sons.skim(0, 0), 3);
        sons.hour();
        CHECK.due("nothing", sons.skim(0, 0), SkimmedSons.STATE);
        CHECK.due("it stands still though", sons.pan(0, 5), 1);
        CHECK.due("worth of 0", sons.child(0, 4), 4);
        CHECK.due("worth of 1", sons.child(1, 4), 4 + 3 + 2);
    }

    private static void enough() {
        SkimmedSons sons = Check.read("w00,w01;c,j");
        for (int i = 0; i < 99; i++) {
            if (i % 9 == 0) {
                sons.pour(0, 0, 9);
            }
            CHECK.due("blue " + i, sons.skim(1, 0), 3);
        }
        sons.hour();
        sons.pour(0, 1, 9);
        sons.hour();
        CHECK.due("cream is no blue", sons.skim(1, 0), 1);
        sons.hour();
        CHECK.due("blue 99", sons.skim(1, 0), SkimmedSons.FULL);
        CHECK.due("blue 99 of another pan", sons.skim(1, 1), SkimmedSons.FULL);
        CHECK.due("it has 99", sons.child(1, 3), 99);
        CHECK.due("it is there", sons.pan(0, 3), 9);
        CHECK.due("it stood still", sons.pan(0, 5), 1);
        CHECK.due("another child", sons.skim(0, 0), 3);
        for (int i = 0; i < 8; i++) {
            sons.skim(0, 0);
        }
        CHECK.due("nothing is told ahead of enough", sons.skim(1, 0), SkimmedSons.STATE);
    }

    private static void stirs() {
        SkimmedSons sons = Check.read("c73,w93;c,c");
        CHECK.due("stir(2)", sons.stir(2), SkimmedSons.UNKNOWN);
        CHECK.due("stir(-1)", sons.stir(-1), SkimmedSons.UNKNOWN);
        Check.hours(sons, 3);
        CHECK.due("stir(0)", sons.stir(0), 7);
        CHECK.due("cream", sons.pan(0, 1), 0);
        CHECK.due("film", sons.pan(0, 2), 0);
        CHECK.due("blue", sons.pan(0, 3), 3);
        CHECK.due("still", sons.pan(0, 5), 0);
        CHECK.due("film of the other", sons.pan(1, 2), 1);
        CHECK.due("still of the other", sons.pan(1, 5), 3);
        sons.hour();
        CHECK.due("stir(0) again", sons.stir(0), 7);
    }

    private static void pours() {
        SkimmedSons sons = Check.read("c73,w93;c,c");
        CHECK.due("pour(2, 10, 0)", sons.pour(2, 10, 0), SkimmedSons.UNKNOWN);
        CHECK.due("pour(-1, 0, 0)", sons.pour(-1, 0, 0), SkimmedSons.UNKNOWN);
        CHECK.due("pour(0, 10, 0)", sons.pour(0, 10, 0), SkimmedSons.OUTSIDE);
        CHECK.due("pour(0, 0, 10)", sons.pour(0, 0, 10), SkimmedSons.OUTSIDE);
        CHECK.due("pour(0, -1, 0)", sons.pour(0, -1, 0), SkimmedSons.OUTSIDE);
        CHECK.due("pour(0, 0, -1)", sons.pour(0, 0, -1), SkimmedSons.OUTSIDE);
        CHECK.due("pour(0, 9, 10)", sons.pour(0, 9, 10), SkimmedSons.OUTSIDE);
        Check.hours(sons, 3);
        CHECK.due("pour(0, 9, 2)", sons.pour(0, 9, 2), SkimmedSons.FULL);
        CHECK.due("refused: still", sons.pan(0, 5), 3);
        CHECK.due("refused: fat", sons.pan(0, 0), 1);
        CHECK.due("pour(0, 4, 5)", sons.pour(0, 4, 5), 19);
        CHECK.due("fat", sons.pan(0, 0), 5);
        CHECK.due("cream", sons.pan(0, 1), 5);
        CHECK.due("film", sons.pan(0, 2), 1);
        CHECK.due("blue", sons.pan(0, 3), 8);
        CHECK.due("still", sons.pan(0, 5), 0);
        CHECK.due("pour(0, 0, 1)", sons.pour(0, 0, 1), 20);
        CHECK.due("pour(0, 1, 0)", sons.pour(0, 1, 0), SkimmedSons.FULL);
        sons.hour();
        CHECK.due("pour(0, 0, 0)", sons.pour(0, 0, 0), 20);
        CHECK.due("nothing poured: still", sons.pan(0, 5), 0);
        CHECK.due("still of the other", sons.pan(1, 5), 4);
    }
}
