import java.util.Random;

/** Long runs of calls, ordinary and wrong, answered by the class and by the oracle alike. */
public final class RandomRunsTest {
    private static final int RUNS = 240, CALLS = 512;
    private static final Check CHECK = new Check("RandomRunsTest");

    private final Random random;
    private final SkimmedSons sons = new SkimmedSons();
    private final Oracle oracle = new Oracle();
    private final String name;

    private RandomRunsTest(int run) {
        random = new Random(run);
        name = "run " + run + ", ";
    }

    public static void main(String[] args) {
        for (int run = 0; run < RUNS; run++) {
            RandomRunsTest one = new RandomRunsTest(run);
            int calls = 0;
            while (calls < CALLS) {
                calls += one.step(calls);
            }
        }
        CHECK.due("calls in all", CHECK.asked(), RUNS * CALLS);
        CHECK.end();
    }

    /** Mostly within the bounds, now and then just outside them. */
    private int around(int least, int most) {
        int dice = random.nextInt(40);
        if (dice == 0) {
            return least - 1;
        }
        if (dice == 1) {
            return most + 1;
        }
        return dice == 2 ? random.nextInt() : least + random.nextInt(most - least + 1);
    }

    private int aPan() {
        return around(0, Math.max(0, oracle.count(0) - 1));
    }

    private int aChild() {
        return around(0, Math.max(0, oracle.count(1) - 1));
    }

    private int step(int calls) {
        boolean wantsDairy = oracle.count(0) == 0 ? random.nextInt(3) > 0 : random.nextInt(150) == 0;
        // A reading takes some sixty calls at most, each letter being looked at by fault(): no run has more than 512.
        if (wantsDairy && calls < CALLS - 60) {
            return readDairy(calls);
        }
        int dice = random.nextInt(100);
        if (dice < 50) {
            done(calls, dice);
        } else if (dice < 80) {
            wouldBe(calls, dice);
        } else {
            told(calls, dice);
        }
        return 1;
    }

    private int readDairy(int calls) {
        StringBuilder text = new StringBuilder();
        int pans = 1 + random.nextInt(random.nextInt(8) == 0 ? 4 : 3);
        for (int pan = 0; pan < pans; pan++) {
            text.append(pan == 0 ? "" : ",").append("wcf".charAt(random.nextInt(3)));
            text.append(random.nextInt(10)).append(random.nextInt(10));
        }
        int children = random.nextInt(8) == 0 ? 1 + random.nextInt(6) : 2 + random.nextInt(4);
        for (int child = 0; child < children; child++) {
            text.append(child == 0 ? ";" : ",").append("chsyj".charAt(random.nextInt(5)));
        }
        if (random.nextInt(4) == 0) {
            text.setCharAt(random.nextInt(text.length()), "wcf;,09hsyj:/x".charAt(random.nextInt(14)));
        }
        boolean blanked = oracle.count(10) > 0 && random.nextInt(5) > 0;
        if (blanked) {
            CHECK.due(name + "blank()", sons.blank(), oracle.blank());
        }
        for (int i = 0; i < text.length(); i++) {
            int code = text.charAt(i);
            CHECK.due(name + "letter(" + code + ")", sons.letter(code), oracle.letter(code));
            CHECK.due(name + "fault()", sons.fault(), oracle.fault());
        }
        CHECK.due(name + calls + " dairy() of " + text, sons.dairy(), oracle.dairy());
        return 2 * text.length() + (blanked ? 2 : 1);
    }

    private void done(int calls, int dice) {
        int pan = aPan();
        int child = aChild();
        if (dice < 18) {
            CHECK.due(name + calls + " hour()", sons.hour(), oracle.hour());
        } else if (dice < 33) {
            CHECK.due(name + calls + " skim", sons.skim(child, pan), oracle.skim(child, pan));
        } else if (dice < 36) {
            CHECK.due(name + calls + " stir", sons.stir(pan), oracle.stir(pan));
        } else if (dice < 41) {
            int fat = around(0, 9);
            int blue = around(0, 9);
            CHECK.due(name + calls + " pour", sons.pour(pan, fat, blue), oracle.pour(pan, fat, blue));
        } else if (dice < 44) {
            int behind = around(1, 12);
            int much = around(0, random.nextInt(3) == 0 ? 40 : 12);
            CHECK.due(name + calls + " see", sons.see(pan, behind, much), oracle.see(pan, behind, much));
        } else if (dice < 45) {
            CHECK.due(name + calls + " forget()", sons.forget(), oracle.forget());
        } else if (dice < 47) {
            CHECK.due(name + calls + " image()", sons.image(), oracle.image());
        } else if (dice < 48) {
            CHECK.due(name + calls + " restore()", sons.restore(), oracle.restore());
        } else {
            int code = around(32, 126);
            CHECK.due(name + calls + " letter", sons.letter(code), oracle.letter(code));
        }
    }

    private void wouldBe(int calls, int dice) {
        int what = around(0, 3);
        if (dice < 56) {
            int pan = aPan();
            int hours = around(0, 40);
            CHECK.due(name + calls + " later", sons.later(pan, hours, what), oracle.later(pan, hours, what));
        } else if (dice < 63) {
            int child = aChild();
            int hours = around(1, 4);
            int step = random.nextBoolean() ? around(10, 13) : around(0, 0);
            CHECK.due(name + calls + " plan", sons.plan(child, hours, step), oracle.plan(child, hours, step));
        } else if (dice < 66) {
            int a = aChild();
            int b = aChild();
            int half = around(0, 1);
            CHECK.due(name + calls + " treaty", sons.treaty(a, b, half), oracle.treaty(a, b, half));
        } else if (dice < 73) {
            int pan = aPan();
            int hours = around(1, 8);
            int tenths = around(0, 10);
            int half = around(0, 1);
            CHECK.due(name + calls + " odds", sons.odds(pan, hours, tenths, half), oracle.odds(pan, hours, tenths, half));
        } else {
            int times = around(1, 60);
            int seed = around(0, Integer.MAX_VALUE - 1);
            int third = around(0, 2);
            CHECK.due(name + calls + " nights", sons.nights(times, seed, third), oracle.nights(times, seed, third));
        }
    }

    private void told(int calls, int dice) {
        if (dice < 87) {
            int pan = aPan();
            int what = around(0, 8);
            CHECK.due(name + calls + " pan(" + pan + ", " + what + ")", sons.pan(pan, what), oracle.pan(pan, what));
        } else if (dice < 91) {
            int child = aChild();
            int what = random.nextBoolean() ? around(0, 4) : around(11, 13);
            CHECK.due(name + calls + " child", sons.child(child, what), oracle.child(child, what));
        } else if (dice < 93) {
            int child = aChild();
            int kind = around(0, 4);
            CHECK.due(name + calls + " as", sons.as(child, kind), oracle.as(child, kind));
        } else if (dice < 96) {
            int what = around(0, 12);
            CHECK.due(name + calls + " count(" + what + ")", sons.count(what), oracle.count(what));
        } else {
            CHECK.due(name + calls + " digest()", sons.digest(), oracle.digest());
        }
    }
}
