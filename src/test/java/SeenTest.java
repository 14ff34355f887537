/** Promises 17 to 19: what is seen; nights. */
public final class SeenTest {
    private static final Check CHECK = new Check("SeenTest");

    public static void main(String[] args) {
        sights();
        fatsAreOfNow();
        looks();
        sightEdges();
        forgets();
        nights();
        nightEdges();
        CHECK.end();
    }

    private static void sights() {
        SkimmedSons sons = Check.read("c50,w93;c,c");
        CHECK.due("see(0, 3, 6)", sons.see(0, 3, 6), 1);
        CHECK.due("6 or more", sons.pan(0, 7), 0xffff & ~0x3f);
        CHECK.due("the other pan", sons.pan(1, 7), 0xffff);
        CHECK.due("see(1, 4, 2)", sons.see(1, 4, 2), 2);
        CHECK.due("2 of the other", sons.pan(1, 7), 1 << 2);
        CHECK.due("see(0, 12, 9)", sons.see(0, 12, 9), 3);
        CHECK.due("9", sons.pan(0, 7), 1 << 9);
        CHECK.due("look", sons.pan(0, 8), 1);
        CHECK.due("see(0, 12, 9) again", sons.see(0, 12, 9), 4);
        CHECK.due("see(0, 12, 16)", sons.see(0, 12, 16), 5);
        CHECK.due("none", sons.pan(0, 7), 0);
        CHECK.due("no look", sons.pan(0, 8), SkimmedSons.NONE);
        CHECK.due("fat is as it is", sons.pan(0, 0), 5);
        CHECK.due("how much is seen", sons.count(9), 5);
    }

    private static void fatsAreOfNow() {
        SkimmedSons sons = Check.read("c50;c,c");
        sons.see(0, 1, 2);
        CHECK.due("2 or more", sons.pan(0, 7), 0xfffc);
        sons.hour();
        CHECK.due("2 are cream: nothing rises", sons.pan(0, 7), 1);
        sons.skim(0, 0);
        CHECK.due("1 is cream: 1 rises", sons.pan(0, 7), 2);
        sons.stir(0);
        CHECK.due("none is cream", sons.pan(0, 7), 0xfffc);
        Check.hours(sons, 3);
        CHECK.due("more is there", sons.pan(0, 7), 0);
        sons.pour(0, 0, 9);
        CHECK.due("blue tells nothing", sons.pan(0, 7), 0);
    }

    private static void looks() {
        SkimmedSons sons = Check.read("w00,c00,f00;c,c");
        CHECK.due("warm", sons.pan(0, 8), 12);
        CHECK.due("cold", sons.pan(1, 8), 8);
        CHECK.due("frosty", sons.pan(2, 8), 5);
        sons.see(0, 12, 12);
        CHECK.due("12 or more: none is better", sons.pan(0, 8), 1);
        sons.see(2, 1, 3);
        CHECK.due("3 or more", sons.pan(2, 8), 5);
        sons.see(1, 2, 3);
        CHECK.due("just 3", sons.pan(1, 8), 1);
    }

    private static void sightEdges() {
        SkimmedSons sons = Check.read("w11,w11;c,c");
        CHECK.due("see(2, 0, 0)", sons.see(2, 0, 0), SkimmedSons.UNKNOWN);
        CHECK.due("see(-1, 1, 0)", sons.see(-1, 1, 0), SkimmedSons.UNKNOWN);
        CHECK.due("see(0, 0, 0)", sons.see(0, 0, 0), SkimmedSons.OUTSIDE);
        CHECK.due("see(0, 13, 0)", sons.see(0, 13, 0), SkimmedSons.OUTSIDE);
        CHECK.due("see(0, 1, -1)", sons.see(0, 1, -1), SkimmedSons.OUTSIDE);
        CHECK.due("see(0, 1, 41)", sons.see(0, 1, 41), SkimmedSons.OUTSIDE);
        CHECK.due("nothing is seen", sons.count(9), 0);
        for (int i = 1; i <= 6; i++) {
            CHECK.due("see " + i, sons.see(i % 2, 2 * i, i == 6 ? 40 : i), i);
        }
        CHECK.due("see 7", sons.see(0, 1, 1), SkimmedSons.FULL);
        CHECK.due("see 7 of the other", sons.see(1, 1, 1), SkimmedSons.FULL);
        CHECK.due("see 7, wrong too", sons.see(1, 13, 1), SkimmedSons.OUTSIDE);
        CHECK.due("how much is seen", sons.count(9), 6);
    }

    private static void forgets() {
        SkimmedSons sons = Check.read("w11;c,c");
        CHECK.due("forget()", sons.forget(), 0);
        sons.see(0, 1, 0);
        sons.see(0, 1, 1);
        CHECK.due("no fats", sons.pan(0, 7), 0);
        CHECK.due("forget()", sons.forget(), 2);
        CHECK.due("all fats", sons.pan(0, 7), 0xffff);
        CHECK.due("nothing is seen", sons.count(9), 0);
        CHECK.due("forget()", sons.forget(), 0);
        CHECK.due("see again", sons.see(0, 1, 1), 1);
    }

    private static void nights() {
        for (String dairy : new String[] {"c73,f52,w94;h,s,j,y", "c99;s,y"}) {
            SkimmedSons sons = Check.read(dairy);
            Check.hours(sons, 2);
            long before = sons.digest();
            for (int seed : new int[] {0, 1, 7, 99, 12345, 65535, 65536, 2147483646, 2147483647}) {
                for (int times : new int[] {1, 2, 3, 10, 30, 60}) {
                    nightsAre(sons, dairy, times, seed);
                }
            }
            CHECK.due("as they would be", sons.digest(), before);
        }
    }

    /** By doing on another object what the draws say. */
    private static void nightsAre(SkimmedSons sons, String dairy, int times, int seed) {
        SkimmedSons done = Check.read(dairy);
        Check.hours(done, 2);
        long now = seed;
        for (int time = 0; time < times; time++) {
            now = (1103515245L * now + 12345L) % 2147483648L;
            if (now / 65536 % 2 == 0) {
                done.hour();
            } else {
                now = (1103515245L * now + 12345L) % 2147483648L;
                int child = (int) (now / 65536 % done.count(1));
                now = (1103515245L * now + 12345L) % 2147483648L;
                done.skim(child, (int) (now / 65536 % done.count(0)));
            }
        }
        String call = "nights(" + times + ", " + seed + ", ";
        CHECK.due(call + "0)", sons.nights(times, seed, 0), done.count(8));
        CHECK.due(call + "1)", sons.nights(times, seed, 1), done.count(7));
        CHECK.due(call + "2)", sons.nights(times, seed, 2), now);
    }

    private static void nightEdges() {
        SkimmedSons sons = Check.read("c73;h,s");
        CHECK.due("nights(0, 1, 0)", sons.nights(0, 1, 0), SkimmedSons.OUTSIDE);
        CHECK.due("nights(61, 1, 0)", sons.nights(61, 1, 0), SkimmedSons.OUTSIDE);
        CHECK.due("nights(1, -1, 0)", sons.nights(1, -1, 0), SkimmedSons.OUTSIDE);
        CHECK.due("nights(1, least, 2)", sons.nights(1, Integer.MIN_VALUE, 2), SkimmedSons.OUTSIDE);
        CHECK.due("nights(1, 1, 3)", sons.nights(1, 1, 3), SkimmedSons.OUTSIDE);
        CHECK.due("nights(1, 1, -1)", sons.nights(1, 1, -1), SkimmedSons.OUTSIDE);
        // What they had before does not count.
        Check.hours(sons, 3);
        sons.skim(1, 0);
        CHECK.due("nights(1, 0, 0)", sons.nights(1, 0, 0), 0);
        CHECK.due("nights(1, 0, 1)", sons.nights(1, 0, 1), 0);
        CHECK.due("nights(1, 0, 2)", sons.nights(1, 0, 2), 12345);
    }
}
