/** Counts the answers that are not as due, and ends a test by them. */
final class Check {
    private final String name;
    private int asked;
    private int wrong;

    Check(String name) {
        this.name = name;
    }

    void due(String call, long got, long want) {
        asked++;
        if (got != want) {
            wrong++;
            System.out.println(name + ": " + call + " answered " + got + ", due is " + want);
        }
    }

    void holds(String what, boolean so) {
        due(what, so ? 1 : 0, 1);
    }

    void end() {
        System.out.println(name + ": " + asked + " answers, " + wrong + " not as due");
        if (wrong != 0) {
            System.exit(1);
        }
    }

    /** Writes a text on the page of an object. */
    static SkimmedSons write(SkimmedSons sons, String text) {
        for (char letter : text.toCharArray()) {
            sons.letter(letter);
        }
        return sons;
    }

    /** A new object that has read a dairy. */
    static SkimmedSons read(String text) {
        SkimmedSons sons = write(new SkimmedSons(), text);
        if (sons.dairy() < 0) {
            throw new IllegalArgumentException("no dairy: " + text);
        }
        return sons;
    }

    static void hours(SkimmedSons sons, int many) {
        for (int i = 0; i < many; i++) {
            sons.hour();
        }
    }
}
