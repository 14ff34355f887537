/** Promises 20 to 23: what is told of all. */
public final class WholeTest {
    private static final Check CHECK = new Check("WholeTest");

    public static void main(String[] args) {
        images();
        imageIsOfItsDairy();
        counts();
        digests();
        CHECK.end();
    }

    private static void images() {
        SkimmedSons sons = Check.read("c74,f93;h,j");
        CHECK.due("restore() at first", sons.restore(), SkimmedSons.STATE);
        Check.hours(sons, 4);
        sons.skim(0, 0);
        sons.skim(1, 1);
        sons.hour();
        sons.see(1, 2, 14);
        CHECK.due("image()", sons.image(), 5);
        long kept = sons.digest();
        int fats = sons.pan(1, 7);
        CHECK.due("fats at the image", fats, 0xffff & ~0x3f);
        change(sons);
        CHECK.holds("it is changed", sons.digest() != kept);
        CHECK.due("restore()", sons.restore(), 5);
        CHECK.due("it is as it was", sons.digest(), kept);
        CHECK.due("fats are as they were", sons.pan(1, 7), fats);
        change(sons);
        CHECK.due("restore() again", sons.restore(), 5);
        CHECK.due("it is as it was, again", sons.digest(), kept);
        sons.hour();
        CHECK.due("a later image()", sons.image(), 6);
        change(sons);
        CHECK.due("the latest is kept", sons.restore(), 6);
        CHECK.due("still, then", sons.pan(0, 5), 2);
        notKept(sons);
    }

    private static void change(SkimmedSons sons) {
        Check.hours(sons, 3);
        sons.skim(1, 0);
        sons.skim(0, 1);
        sons.stir(1);
        sons.pour(0, 1, 1);
        sons.forget();
        sons.see(0, 1, 1);
        sons.see(1, 9, 2);
    }

    private static void notKept(SkimmedSons sons) {
        sons.image();
        sons.letter('w');
        sons.treaty(0, 1, 0);
        sons.restore();
        CHECK.due("the page is not kept", sons.count(10), 1);
        CHECK.due("treaties are not kept", sons.count(12), 1);
    }

    private static void imageIsOfItsDairy() {
        SkimmedSons sons = Check.read("c74;h,j");
        sons.image();
        Check.write(sons, "c7");
        CHECK.due("dairy() refused", sons.dairy(), SkimmedSons.STATE);
        CHECK.due("restore() of the same", sons.restore(), 0);
        Check.write(sons, "4;h,j");
        CHECK.due("dairy(), just alike", sons.dairy(), 2);
        CHECK.due("restore() of another", sons.restore(), SkimmedSons.STATE);
        sons.hour();
        CHECK.due("image() of the new one", sons.image(), 1);
        CHECK.due("restore() of the new one", sons.restore(), 1);
    }

    private static void counts() {
        SkimmedSons sons = Check.read("c74,f93,w00;h,j,s,y");
        Check.hours(sons, 3);
        sons.skim(0, 0);
        sons.skim(1, 1);
        sons.skim(0, 0);
        sons.see(0, 1, 1);
        sons.treaty(0, 1, 0);
        Check.write(sons, "c11");
        int[] want = {3, 4, 1, 4 + 8, 0, 7, 3, 8 + 16, 2, 1, 3, 1, 1};
        for (int what = 0; what < want.length; what++) {
            CHECK.due("count(" + what + ")", sons.count(what), want[what]);
        }
        CHECK.due("count(-1)", sons.count(-1), SkimmedSons.OUTSIDE);
        CHECK.due("count(13)", sons.count(13), SkimmedSons.OUTSIDE);
    }

    private static void digests() {
        SkimmedSons sons = new SkimmedSons();
        CHECK.due("digest() of a new one", sons.digest(), digestOf(sons, ""));
        Check.write(sons, "w~ ");
        CHECK.due("digest() of a page", sons.digest(), digestOf(sons, "w~ "));
        sons.blank();
        Check.write(sons, "c74,f93,w00;h,j,s,y");
        sons.dairy();
        CHECK.due("digest() of a dairy", sons.digest(), digestOf(sons, ""));
        Check.hours(sons, 3);
        sons.skim(0, 0);
        sons.skim(1, 1);
        sons.see(1, 1, 9);
        Check.write(sons, "c7;");
        long first = sons.digest();
        CHECK.due("digest() of all", first, digestOf(sons, "c7;"));
        CHECK.due("digest() changes nothing", sons.digest(), first);
        // So that the hours of later(), odds() and plan() are told apart.
        for (int hour = 0; hour < 6; hour++) {
            SkimmedSons slow = Check.read("w90,w90,w01;c,s,y,j", hour);
            CHECK.due("digest() in hour " + hour, slow.digest(), digestOf(slow, ""));
        }
    }

    private static long digestOf(SkimmedSons sons, String page) {
        long h = 1213;
        for (int pan = 0; pan < sons.count(0); pan++) {
            for (int what = 0; what <= 8; what++) {
                h = 31 * h + sons.pan(pan, what);
            }
            for (int what = 0; what <= 3; what++) {
                h = 31 * h + sons.later(pan, 7, what);
            }
            h = 31 * h + sons.odds(pan, 4, 5, 0);
            h = 31 * h + sons.odds(pan, 4, 5, 1);
        }
        for (int child = 0; child < sons.count(1); child++) {
            for (int what : new int[] {0, 1, 2, 3, 4, 11, 12, 13}) {
                h = 31 * h + sons.child(child, what);
            }
            for (int what : new int[] {0, 10, 11}) {
                h = 31 * h + sons.plan(child, 2, what);
            }
        }
        for (char letter : page.toCharArray()) {
            h = 31 * h + letter;
        }
        for (int what = 0; what <= 12; what++) {
            h = 31 * h + sons.count(what);
        }
        return h;
    }
}
