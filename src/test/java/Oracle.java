import java.math.BigInteger;
import java.util.ArrayList;
import java.util.HashMap;
import java.util.List;
import java.util.Map;
import java.util.TreeMap;
import java.util.regex.Matcher;
import java.util.regex.Pattern;

/**
 * The document told a second time, on other ways: pans as piles of letters, reading by a pattern,
 * every plan and every night gone through one by one.
 */
final class Oracle {
    private static final int NONE = -1, UNKNOWN = -101, OUTSIDE = -102, STATE = -103, FULL = -104;
    private static final Pattern DAIRY =
        Pattern.compile("[wcf][0-9][0-9](,[wcf][0-9][0-9]){0,2};[chsyj](,[chsyj]){1,4}");
    /** By kind, then FAT, CREAM, FILM, BLUE. */
    private static final int[][] WORTH = {{0, 2, 4, 1}, {0, 4, 4, 0}, {0, 1, 4, 2}, {0, 2, 8, 1}, {0, 0, 16, 0}};

    /** A pile: '3' for BLUE, '1' for CREAM, '2' for FILM, the last letter on top. */
    private static final class Bowl {
        final int sill;
        final int fat;
        final String pile;
        final int still;

        Bowl(int sill, int fat, String pile, int still) {
            this.sill = sill;
            this.fat = fat;
            this.pile = pile;
            this.still = still;
        }

        Bowl hourOn() {
            String cream = "1".repeat(Math.min(fat, sill + 1));
            int under = pile.replace("2", "").length();
            String risen = pile.substring(0, under) + cream + pile.substring(under);
            if ((still + 1) % 3 == 0 && risen.contains("1")) {
                int last = risen.lastIndexOf('1');
                risen = risen.substring(0, last) + "2" + risen.substring(last + 1);
            }
            return new Bowl(sill, fat - cream.length(), risen, still + 1);
        }

        int top() {
            return pile.isEmpty() ? NONE : pile.charAt(pile.length() - 1) - '0';
        }

        Bowl skimmed() {
            return new Bowl(sill, fat, pile.substring(0, pile.length() - 1), 0);
        }

        int much(int what) {
            return what == 0 ? fat : (int) pile.chars().filter(c -> c == '0' + what).count();
        }

        Bowl withFat(int other) {
            return new Bowl(sill, other, pile, still);
        }

        Bowl behind(int hours) {
            return hours == 0 ? this : hourOn().behind(hours - 1);
        }
    }

    private String page = "";
    private List<Bowl> pans = new ArrayList<>();
    private String kinds = "";
    private List<int[]> had = new ArrayList<>();
    private int hours;
    private List<int[]> seen = new ArrayList<>();
    private int read;
    private int treaties;
    private boolean kept;
    private List<Bowl> keptPans;
    private List<int[]> keptHad;
    private int keptHours;
    private List<int[]> keptSeen;

    private static List<int[]> deep(List<int[]> rows) {
        List<int[]> copy = new ArrayList<>();
        rows.forEach(row -> copy.add(row.clone()));
        return copy;
    }

    private boolean noPan(int pan) {
        return pan < 0 || pan >= pans.size();
    }

    private boolean noChild(int child) {
        return child < 0 || child >= kinds.length();
    }

    private static boolean out(int number, int least, int most) {
        return number < least || number > most;
    }

    int letter(int code) {
        if (out(code, 32, 126)) {
            return OUTSIDE;
        }
        if (page.length() == 24) {
            return FULL;
        }
        page += (char) code;
        return page.length();
    }

    int blank() {
        int had = page.length();
        page = "";
        return had;
    }

    int fault() {
        for (int end = 1; end <= page.length(); end++) {
            Matcher matcher = DAIRY.matcher(page.substring(0, end));
            if (!matcher.matches() && !matcher.hitEnd()) {
                return end - 1;
            }
        }
        return page.length();
    }

    int dairy() {
        if (!DAIRY.matcher(page).matches()) {
            return STATE;
        }
        String[] parts = page.split(";");
        pans = new ArrayList<>();
        for (String pan : parts[0].split(",")) {
            pans.add(new Bowl("wcf".indexOf(pan.charAt(0)), pan.charAt(1) - '0', "3".repeat(pan.charAt(2) - '0'), 0));
        }
        kinds = parts[1].replace(",", "");
        had = new ArrayList<>();
        kinds.chars().forEach(c -> had.add(new int[4]));
        hours = 0;
        seen = new ArrayList<>();
        kept = false;
        page = "";
        read++;
        return kinds.length();
    }

    private int[] worthFor(int child) {
        return WORTH["chsyj".indexOf(kinds.charAt(child))];
    }

    private int worth(int child) {
        int sum = 0;
        for (int what = 1; what <= 3; what++) {
            sum += had.get(child)[what] * worthFor(child)[what];
        }
        return sum;
    }

    int pan(int pan, int what) {
        if (noPan(pan)) {
            return UNKNOWN;
        }
        Bowl bowl = pans.get(pan);
        if (out(what, 0, 8)) {
            return OUTSIDE;
        }
        if (what <= 3) {
            return bowl.much(what);
        }
        return what == 4 ? bowl.sill : what == 5 ? bowl.still : what == 6 ? bowl.top() : what == 7 ? fats(pan) : look(pan);
    }

    private static int risen(Bowl bowl) {
        return bowl.much(1) + bowl.much(2);
    }

    private int fats(int pan) {
        int bits = 0;
        for (int fat = 0; fat <= 15; fat++) {
            boolean can = true;
            for (int[] one : seen) {
                can &= one[0] != pan || risen(pans.get(pan).withFat(fat).behind(one[1])) == one[2];
            }
            bits += can ? 1 << fat : 0;
        }
        return bits;
    }

    private int look(int pan) {
        int fats = fats(pan);
        int best = NONE;
        int fewest = Integer.MAX_VALUE;
        for (int behind = 1; behind <= 12 && fats != 0; behind++) {
            Map<Integer, Integer> groups = new HashMap<>();
            for (int fat = 0; fat <= 15; fat++) {
                if ((fats >> fat & 1) == 1) {
                    groups.merge(risen(pans.get(pan).withFat(fat).behind(behind)), 1, Integer::sum);
                }
            }
            int worst = groups.values().stream().max(Integer::compare).orElse(0);
            if (worst < fewest) {
                fewest = worst;
                best = behind;
            }
        }
        return best;
    }

    int child(int child, int what) {
        if (noChild(child)) {
            return UNKNOWN;
        }
        if (out(what, 0, 4) && out(what, 11, 13)) {
            return OUTSIDE;
        }
        if (what >= 11) {
            return worthFor(child)[what - 10];
        }
        return what == 0 ? "chsyj".indexOf(kinds.charAt(child)) : what == 4 ? worth(child) : had.get(child)[what];
    }

    int as(int child, int kind) {
        if (noChild(child)) {
            return UNKNOWN;
        }
        if (out(kind, 0, 4)) {
            return OUTSIDE;
        }
        char is = kinds.charAt(child);
        char asked = "chsyj".charAt(kind);
        return asked == 'c' || is == asked || is == 'j' && asked == 'y' ? child : NONE;
    }

    private static List<Bowl> hourOn(List<Bowl> bowls) {
        List<Bowl> next = new ArrayList<>();
        bowls.forEach(bowl -> next.add(bowl.hourOn()));
        return next;
    }

    private static List<Bowl> skimmed(List<Bowl> bowls, int pan) {
        List<Bowl> next = new ArrayList<>(bowls);
        next.set(pan, bowls.get(pan).skimmed());
        return next;
    }

    int hour() {
        if (read == 0) {
            return STATE;
        }
        if (hours == 999) {
            return FULL;
        }
        pans = hourOn(pans);
        return ++hours;
    }

    int skim(int child, int pan) {
        if (noChild(child) || noPan(pan)) {
            return UNKNOWN;
        }
        int top = pans.get(pan).top();
        if (top == NONE) {
            return STATE;
        }
        if (had.get(child)[top] == 99) {
            return FULL;
        }
        had.get(child)[top]++;
        pans = skimmed(pans, pan);
        return top;
    }

    int stir(int pan) {
        if (noPan(pan)) {
            return UNKNOWN;
        }
        Bowl bowl = pans.get(pan);
        pans.set(pan, new Bowl(bowl.sill, bowl.fat + risen(bowl), "3".repeat(bowl.much(3)), 0));
        return pans.get(pan).fat;
    }

    int pour(int pan, int fat, int blue) {
        if (noPan(pan)) {
            return UNKNOWN;
        }
        if (out(fat, 0, 9) || out(blue, 0, 9)) {
            return OUTSIDE;
        }
        Bowl bowl = pans.get(pan);
        int all = bowl.fat + bowl.pile.length() + fat + blue;
        if (all > 20) {
            return FULL;
        }
        pans.set(pan, new Bowl(bowl.sill, bowl.fat + fat, "3".repeat(blue) + bowl.pile, 0));
        return all;
    }

    int later(int pan, int hours, int what) {
        if (noPan(pan)) {
            return UNKNOWN;
        }
        if (out(hours, 0, 40) || out(what, 0, 3)) {
            return OUTSIDE;
        }
        return pans.get(pan).behind(hours).much(what);
    }

    int plan(int child, int hours, int what) {
        if (noChild(child)) {
            return UNKNOWN;
        }
        if (out(hours, 1, 4) || what != 0 && out(what, 10, 13)) {
            return OUTSIDE;
        }
        // All ways by their own names: 'a' for pan 0 and so on, '-' for waiting; the first name of the best wins.
        TreeMap<String, Integer> ways = new TreeMap<>();
        goOn(pans, worthFor(child), hours, "", 0, ways);
        int most = ways.values().stream().max(Integer::compare).orElseThrow();
        if (what == 0) {
            return most;
        }
        for (Map.Entry<String, Integer> way : ways.entrySet()) {
            if (way.getValue() == most) {
                String name = way.getKey() + "----";
                return name.charAt(what - 10) == '-' ? NONE : name.charAt(what - 10) - 'a';
            }
        }
        throw new IllegalStateException();
    }

    private static void goOn(List<Bowl> bowls, int[] worth, int left, String way, int sum, Map<String, Integer> ways) {
        if (left == 0) {
            ways.put(way, sum);
            return;
        }
        boolean any = false;
        for (int pan = 0; pan < bowls.size(); pan++) {
            int top = bowls.get(pan).top();
            if (top != NONE) {
                any = true;
                goOn(hourOn(skimmed(bowls, pan)), worth, left - 1, way + (char) ('a' + pan), sum + worth[top], ways);
            }
        }
        if (!any) {
            goOn(hourOn(bowls), worth, left - 1, way + "-", sum, ways);
        }
    }

    int treaty(int a, int b, int what) {
        if (noChild(a) || noChild(b) || a == b) {
            return UNKNOWN;
        }
        if (out(what, 0, 1)) {
            return OUTSIDE;
        }
        if (treaties == 40) {
            return STATE;
        }
        treaties++;
        List<String> piles = new ArrayList<>();
        pans.forEach(bowl -> piles.add(bowl.pile));
        int[] found = mine(piles, worthFor(a), worthFor(b), new HashMap<>());
        return what == 0 ? 1000 + found[0] : found[1];
    }

    /** For the one whose turn it is: his own less the other's; which pan. */
    private static int[] mine(List<String> piles, int[] own, int[] others, Map<List<String>, int[]> known) {
        int[] best = known.get(piles);
        if (best != null) {
            return best;
        }
        best = new int[] {0, NONE};
        for (int pan = 0; pan < piles.size(); pan++) {
            String pile = piles.get(pan);
            if (!pile.isEmpty()) {
                List<String> rest = new ArrayList<>(piles);
                rest.set(pan, pile.substring(0, pile.length() - 1));
                int value = own[pile.charAt(pile.length() - 1) - '0'] - mine(rest, others, own, known)[0];
                if (best[1] == NONE || value > best[0]) {
                    best = new int[] {value, pan};
                }
            }
        }
        known.put(piles, best);
        return best;
    }

    int odds(int pan, int hours, int tenths, int what) {
        if (noPan(pan)) {
            return UNKNOWN;
        }
        if (out(hours, 1, 8) || out(tenths, 0, 10) || out(what, 0, 1)) {
            return OUTSIDE;
        }
        long ways = 0;
        for (int night = 0; night < 1 << hours; night++) {
            Bowl bowl = pans.get(pan);
            int film = bowl.much(2);
            long now = 1;
            for (int hour = 0; hour < hours; hour++) {
                boolean still = (night >> hour & 1) == 1;
                now *= still ? tenths : 10 - tenths;
                // Where it is not still, it rises as if it had never stood, and stands anew.
                bowl = still ? bowl.hourOn() : disturbed(bowl);
            }
            ways += bowl.much(2) > film ? now : 0;
        }
        BigInteger above = BigInteger.valueOf(ways);
        BigInteger below = BigInteger.TEN.pow(hours);
        BigInteger common = above.gcd(below);
        return (what == 0 ? above : below).divide(common).intValueExact();
    }

    private static Bowl disturbed(Bowl bowl) {
        Bowl risen = new Bowl(bowl.sill, bowl.fat, bowl.pile, 0).hourOn();
        return new Bowl(risen.sill, risen.fat, risen.pile, 0);
    }

    int see(int pan, int hours, int much) {
        if (noPan(pan)) {
            return UNKNOWN;
        }
        if (out(hours, 1, 12) || out(much, 0, 40)) {
            return OUTSIDE;
        }
        if (seen.size() == 6) {
            return FULL;
        }
        seen.add(new int[] {pan, hours, much});
        return seen.size();
    }

    int forget() {
        int had = seen.size();
        seen = new ArrayList<>();
        return had;
    }

    int nights(int times, int seed, int what) {
        if (out(times, 1, 60) || seed < 0 || out(what, 0, 2)) {
            return OUTSIDE;
        }
        if (read == 0) {
            return STATE;
        }
        BigInteger[] now = {BigInteger.valueOf(seed)};
        List<Bowl> bowls = pans;
        int films = 0;
        int worth = 0;
        for (int time = 0; time < times; time++) {
            if (draw(now, 2) == 0) {
                bowls = hourOn(bowls);
                continue;
            }
            int child = draw(now, kinds.length());
            int pan = draw(now, bowls.size());
            int top = bowls.get(pan).top();
            if (top != NONE) {
                bowls = skimmed(bowls, pan);
                films += top == 2 ? 1 : 0;
                worth += worthFor(child)[top];
            }
        }
        return what == 0 ? films : what == 1 ? worth : now[0].intValueExact();
    }

    private static int draw(BigInteger[] seed, int of) {
        seed[0] = seed[0].multiply(BigInteger.valueOf(1103515245)).add(BigInteger.valueOf(12345))
            .mod(BigInteger.TWO.pow(31));
        return seed[0].divide(BigInteger.valueOf(65536)).mod(BigInteger.valueOf(of)).intValueExact();
    }

    int image() {
        if (read == 0) {
            return STATE;
        }
        kept = true;
        keptPans = new ArrayList<>(pans);
        keptHad = deep(had);
        keptHours = hours;
        keptSeen = deep(seen);
        return hours;
    }

    int restore() {
        if (!kept) {
            return STATE;
        }
        pans = new ArrayList<>(keptPans);
        had = deep(keptHad);
        hours = keptHours;
        seen = deep(keptSeen);
        return hours;
    }

    int count(int what) {
        if (out(what, 0, 12)) {
            return OUTSIDE;
        }
        int worth = 0;
        int film = 0;
        for (int child = 0; child < kinds.length(); child++) {
            worth += worth(child);
            film += had.get(child)[2];
        }
        int[] in = new int[4];
        for (int i = 0; i < 4; i++) {
            for (Bowl bowl : pans) {
                in[i] += bowl.much(i);
            }
        }
        return new int[] {pans.size(), kinds.length(), in[0], in[1], in[2], in[3], hours, worth, film, seen.size(),
            page.length(), read, treaties}[what];
    }

    long digest() {
        List<Integer> told = new ArrayList<>();
        for (int pan = 0; pan < pans.size(); pan++) {
            for (int what = 0; what < 13; what++) {
                told.add(what < 9 ? pan(pan, what) : later(pan, 7, what - 9));
            }
            told.add(odds(pan, 4, 5, 0));
            told.add(odds(pan, 4, 5, 1));
        }
        for (int child = 0; child < kinds.length(); child++) {
            for (int what = 0; what < 8; what++) {
                told.add(child(child, what < 5 ? what : what + 6));
            }
            for (int what : new int[] {0, 10, 11}) {
                told.add(plan(child, 2, what));
            }
        }
        page.chars().forEach(told::add);
        for (int what = 0; what <= 12; what++) {
            told.add(count(what));
        }
        long h = 1213;
        for (int number : told) {
            h = 31 * h + number;
        }
        return h;
    }
}
