import java.util.function.IntSupplier;
import java.util.function.Supplier;
import java.util.function.ToIntFunction;

/** Counts the answers that are not as due, and ends a test by them. */
final class Check {
    private final String name;
    private int asked;
    private int wrong;

    Check(String name) {
        this.name = name;
    }

    int asked() {
        return asked;
    }

    int wrong() {
        return wrong;
    }

    void due(String call, long got, long want) {
        asked++;
        if (got != want) {
            wrong++;
            System.out.println(name + ": " + call + " answered " + got + ", due is " + want);
        }
    }

    void holds(String what, boolean so) {
        due(what, so ? 1 : 0, 1);
    }

    void end() {
        System.out.println(name + ": " + asked + " answers, " + wrong + " not as due");
        if (wrong != 0) {
            System.exit(1);
        }
    }

    /** A call that is refused: behind it the object is as one that never was asked. */
    void refused(String call, Supplier<SkimmedSons> made, ToIntFunction<SkimmedSons> asking, int want) {
        SkimmedSons one = made.get();
        due(call, asking.applyAsInt(one), want);
        alike("behind " + call, one, made.get());
    }

    /** A call that only tells: behind it the object is as one that never was asked. */
    void tells(String call, Supplier<SkimmedSons> made, ToIntFunction<SkimmedSons> asking) {
        SkimmedSons one = made.get();
        holds(call + " is no refusal", asking.applyAsInt(one) >= SkimmedSons.NONE);
        alike("behind " + call, one, made.get());
    }

    /** Both tell the same of all, and of their images; both go on from these then. */
    void alike(String when, SkimmedSons one, SkimmedSons other) {
        due(when + ": digest()", one.digest(), other.digest());
        due(when + ": fault()", one.fault(), other.fault());
        for (int pan = 0; pan < other.count(0); pan++) {
            for (int what = 0; what <= 8; what++) {
                due(when + ": pan(" + pan + ", " + what + ")", one.pan(pan, what), other.pan(pan, what));
            }
        }
        for (int what = 0; what <= 12; what++) {
            due(when + ": count(" + what + ")", one.count(what), other.count(what));
        }
        due(when + ": restore()", one.restore(), other.restore());
        due(when + " and restore(): digest()", one.digest(), other.digest());
    }

    /** All of a row of calls, each of them with the same answer due. */
    void all(String calls, long want, IntSupplier... asking) {
        for (int i = 0; i < asking.length; i++) {
            due(calls + ", call " + i + " of the row", asking[i].getAsInt(), want);
        }
    }

    /** Writes a text on the page of an object. */
    static SkimmedSons write(SkimmedSons sons, String text) {
        for (char letter : text.toCharArray()) {
            sons.letter(letter);
        }
        return sons;
    }

    /** A new object that has read a dairy. */
    static SkimmedSons read(String text) {
        SkimmedSons sons = write(new SkimmedSons(), text);
        if (sons.dairy() < 0) {
            throw new IllegalArgumentException("no dairy: " + text);
        }
        return sons;
    }

    /** A new object that has read a dairy, so many hours on. */
    static SkimmedSons read(String text, int many) {
        SkimmedSons sons = read(text);
        hours(sons, many);
        return sons;
    }

    static void hours(SkimmedSons sons, int many) {
        for (int i = 0; i < many; i++) {
            sons.hour();
        }
    }

    static void skims(SkimmedSons sons, int child, int pan, int many) {
        for (int i = 0; i < many; i++) {
            sons.skim(child, pan);
        }
    }

    /** An object of which all that can be is something, with an image that differs from it. */
    static SkimmedSons busy() {
        SkimmedSons sons = read("c74,f93,w52;h,j,s,y", 3);
        sons.skim(1, 0);
        sons.skim(0, 1);
        sons.see(0, 2, 7);
        sons.image();
        hours(sons, 2);
        sons.skim(2, 2);
        sons.skim(3, 2);
        sons.see(1, 1, 8);
        sons.treaty(0, 1, 0);
        sons.hour();
        return write(sons, "w12;c");
    }
}
