import java.util.ArrayList;
import java.util.List;

/** Every argument within its bounds and just beyond them, in some states, answered by the class and the oracle alike. */
public final class AllArgumentsTest {
    private static final Check CHECK = new Check("AllArgumentsTest");
    private static final int LEAST = Integer.MIN_VALUE, MOST = Integer.MAX_VALUE;
    private static final int STATES = 6;

    private SkimmedSons sons;
    private Oracle oracle;
    private final int state;
    private int calls;

    private AllArgumentsTest(int state) {
        this.state = state;
        make();
    }

    public static void main(String[] args) {
        for (int state = 0; state < STATES; state++) {
            AllArgumentsTest one = new AllArgumentsTest(state);
            one.tells();
            one.wouldBe();
            one.does();
        }
        CHECK.end();
    }

    private void make() {
        sons = new SkimmedSons();
        oracle = new Oracle();
        switch (state) {
            case 0:
                break;
            case 1:
                read("w00;c,j");
                break;
            case 2:
                read("c73,w12;h,s,j");
                hours(4);
                break;
            case 3:
                read("c12,f34,w56;c,h,s,y,j");
                hours(2);
                skims(0, 1);
                sees(1, 3, 5);
                write("w11;c,c");
                break;
            case 4:
                read("f99,w99;y,s");
                fill();
                break;
            default:
                read("w90,w09,f90;s,j");
                hours(5);
                enough();
        }
    }

    private void write(String text) {
        for (char letter : text.toCharArray()) {
            CHECK.due("letter", sons.letter(letter), oracle.letter(letter));
        }
    }

    private void read(String text) {
        write(text);
        CHECK.due("dairy", sons.dairy(), oracle.dairy());
    }

    private void hours(int many) {
        for (int i = 0; i < many; i++) {
            CHECK.due("hour", sons.hour(), oracle.hour());
        }
    }

    private void skims(int child, int pan) {
        CHECK.due("skim", sons.skim(child, pan), oracle.skim(child, pan));
    }

    private void sees(int pan, int hours, int much) {
        CHECK.due("see", sons.see(pan, hours, much), oracle.see(pan, hours, much));
    }

    /** Pans, page, sights and treaties are as many as can be. */
    private void fill() {
        for (int i = 0; i < 40; i++) {
            CHECK.due("treaty", sons.treaty(i % 2, 1 - i % 2, 0), oracle.treaty(i % 2, 1 - i % 2, 0));
        }
        for (int pan = 0; pan < 2; pan++) {
            CHECK.due("pour", sons.pour(pan, 1, 1), oracle.pour(pan, 1, 1));
        }
        hours(3);
        for (int i = 1; i <= 6; i++) {
            sees(i % 2, 2 * i, 20);
        }
        write("w12,c34,f56;c,h,s,y,j,,,");
    }

    /** Child 1 has as much BLUE as can be had, and there is more. */
    private void enough() {
        for (int i = 0; i < 99; i++) {
            if (i % 9 == 0) {
                CHECK.due("pour", sons.pour(1, 0, 9), oracle.pour(1, 0, 9));
            }
            skims(1, 1);
        }
        CHECK.due("image", sons.image(), oracle.image());
        hours(1);
    }

    /** All from two below the bounds to two above them, and the ends of int. */
    private static int[] around(int least, int most) {
        List<Integer> all = new ArrayList<>(List.of(LEAST, LEAST + 1, MOST - 1, MOST));
        for (int number = least - 2; number <= most + 2; number++) {
            all.add(number);
        }
        return all.stream().mapToInt(number -> number).toArray();
    }

    /** An answer of a call that only tells. Now and then the next one finds new objects: none has over 512 calls. */
    private void told(String call, long got, long want) {
        CHECK.due("state " + state + ": " + call, got, want);
        calls++;
        if (calls % 300 == 0) {
            make();
        }
    }

    /** An answer of a call that does something: both are alike behind it, and the next one finds new ones. */
    private void done(String call, long got, long want) {
        CHECK.due("state " + state + ": " + call, got, want);
        CHECK.due("state " + state + ": digest() behind " + call, sons.digest(), oracle.digest());
        make();
    }

    private void tells() {
        for (int number : around(0, 5)) {
            for (int what : around(0, 14)) {
                String of = "(" + number + ", " + what + ")";
                told("pan" + of, sons.pan(number, what), oracle.pan(number, what));
                told("child" + of, sons.child(number, what), oracle.child(number, what));
                told("as" + of, sons.as(number, what), oracle.as(number, what));
            }
        }
        for (int what : around(0, 12)) {
            told("count(" + what + ")", sons.count(what), oracle.count(what));
        }
        told("fault()", sons.fault(), oracle.fault());
        told("digest()", sons.digest(), oracle.digest());
    }

    private void wouldBe() {
        for (int number : around(0, 4)) {
            for (int hours : around(0, 40)) {
                for (int what : around(0, 3)) {
                    String of = "(" + number + ", " + hours + ", " + what + ")";
                    told("later" + of, sons.later(number, hours, what), oracle.later(number, hours, what));
                }
            }
            for (int hours : around(1, 4)) {
                for (int what : around(0, 13)) {
                    String of = "(" + number + ", " + hours + ", " + what + ")";
                    told("plan" + of, sons.plan(number, hours, what), oracle.plan(number, hours, what));
                }
            }
        }
        for (int pan : around(0, 2)) {
            odds(pan);
        }
        for (int times : around(1, 60)) {
            for (int seed : around(0, 3)) {
                for (int what : around(0, 2)) {
                    String of = "(" + times + ", " + seed + ", " + what + ")";
                    told("nights" + of, sons.nights(times, seed, what), oracle.nights(times, seed, what));
                }
            }
        }
        told("digest() behind what would be", sons.digest(), oracle.digest());
    }

    private void odds(int pan) {
        for (int hours : around(1, 8)) {
            for (int tenths : around(0, 10)) {
                for (int what : around(0, 1)) {
                    String of = "(" + pan + ", " + hours + ", " + tenths + ", " + what + ")";
                    told("odds" + of, sons.odds(pan, hours, tenths, what), oracle.odds(pan, hours, tenths, what));
                }
            }
        }
    }

    private void does() {
        for (int code : around(32, 126)) {
            done("letter(" + code + ")", sons.letter(code), oracle.letter(code));
        }
        for (int a : around(0, 4)) {
            done("stir(" + a + ")", sons.stir(a), oracle.stir(a));
            for (int b : around(0, 4)) {
                done("skim(" + a + ", " + b + ")", sons.skim(a, b), oracle.skim(a, b));
                for (int what : around(0, 1)) {
                    String of = "(" + a + ", " + b + ", " + what + ")";
                    done("treaty" + of, sons.treaty(a, b, what), oracle.treaty(a, b, what));
                }
            }
        }
        for (int pan : new int[] {LEAST, -1, 0, 1, 2, 3, MOST}) {
            pours(pan);
            for (int hours : around(1, 12)) {
                for (int much : new int[] {LEAST, -1, 0, 1, 39, 40, 41, MOST}) {
                    String of = "(" + pan + ", " + hours + ", " + much + ")";
                    done("see" + of, sons.see(pan, hours, much), oracle.see(pan, hours, much));
                }
            }
        }
    }

    private void pours(int pan) {
        for (int fat : around(0, 9)) {
            for (int blue : around(0, 9)) {
                String of = "(" + pan + ", " + fat + ", " + blue + ")";
                done("pour" + of, sons.pour(pan, fat, blue), oracle.pour(pan, fat, blue));
            }
        }
    }
}
