/** A dairy of pans and children: what rises, who skims what, and what would come of it. */
public final class SkimmedSons {
    public static final int NONE = -1, UNKNOWN = -101, OUTSIDE = -102, STATE = -103, FULL = -104;

    private static final int FAT = 0, CREAM = 1, FILM = 2, BLUE = 3;
    private static final int CHILD_KIND = 0, HEIR_KIND = 1, SECOND_KIND = 2, YOUNGEST_KIND = 3, JOAN_KIND = 4;
    private static final String SILLS = "wcf", KINDS = "chsyj";
    private static final int MOST_LETTERS = 24, MOST_PANS = 3, LEAST_CHILDREN = 2, MOST_CHILDREN = 5;
    private static final int MOST_HOURS = 999, MOST_HAD = 99, MOST_IN_PAN = 20, MOST_POURED = 9;
    private static final int MOST_LATER = 40, MOST_PLANNED = 4, MOST_TREATIES = 40, TREATY_MORE = 1000;
    private static final int MOST_ODDS_HOURS = 8, TENTHS = 10, FILM_HOURS = 3;
    private static final int MOST_SEEN = 6, MOST_SEEN_HOURS = 12, MOST_SEEN_MUCH = 40, MOST_FATS = 16;
    private static final int MOST_NIGHTS = 60, LAST_COUNT = 12;

    private final Page page = new Page();
    private final Shelf shelf = new Shelf();
    private final Child[] children = new Child[MOST_CHILDREN];
    private int childCount;
    private int hoursPassed;
    private final Sights sights = new Sights();
    private int dairiesRead;
    private int treatiesDone;

    private boolean imageKept;
    private int imageHours;
    private final Shelf imageShelf = new Shelf();
    private final Sights imageSights = new Sights();

    private final Shelf trial = new Shelf();
    private final Pan trialPan = new Pan();
    private final Planner planner = new Planner();
    private final Treaty talks = new Treaty();

    public SkimmedSons() {
    }

    // ---- the dairy

    public int letter(int code) {
        if (code < 32 || code > 126) {
            return OUTSIDE;
        }
        if (page.isFull()) {
            return FULL;
        }
        page.add((char) code);
        return page.size();
    }

    public int blank() {
        return page.clear();
    }

    public int fault() {
        return page.firstWrong();
    }

    public int dairy() {
        if (!page.isDairy()) {
            return STATE;
        }
        readPans();
        readChildren();
        page.clear();
        hoursPassed = 0;
        sights.clear();
        imageKept = false;
        dairiesRead++;
        return childCount;
    }

    private void readPans() {
        shelf.clear();
        for (int pan = 0; pan < page.pans(); pan++) {
            int start = page.startOfPan(pan);
            shelf.add(SILLS.indexOf(page.at(start)), digit(page.at(start + 1)), digit(page.at(start + 2)));
        }
    }

    private void readChildren() {
        childCount = Math.min(page.children(), children.length);
        for (int child = 0; child < childCount; child++) {
            children[child] = newChild(KINDS.indexOf(page.at(page.startOfChild(child))));
        }
    }

    private static int digit(char letter) {
        return letter - '0';
    }

    private static Child newChild(int kind) {
        switch (kind) {
            case HEIR_KIND:
                return new Heir();
            case SECOND_KIND:
                return new Second();
            case YOUNGEST_KIND:
                return new Youngest();
            case JOAN_KIND:
                return new Joan();
            default:
                return new Child();
        }
    }

    private boolean hasDairy() {
        return dairiesRead > 0;
    }

    private static boolean isWithin(int number, int least, int most) {
        return number >= least && number <= most;
    }

    // ---- pans, children

    public int pan(int pan, int what) {
        Pan one = shelf.at(pan);
        if (one == null) {
            return UNKNOWN;
        }
        switch (what) {
            case FAT:
            case CREAM:
            case FILM:
            case BLUE:
                return one.much(what);
            case 4:
                return one.sill;
            case 5:
                return one.still;
            case 6:
                return one.top();
            case 7:
                return sights.fats(pan, one);
            case 8:
                return look(sights.fats(pan, one), one.risePerHour());
            default:
                return OUTSIDE;
        }
    }

    private static int look(int fats, int risePerHour) {
        if (fats == 0) {
            return NONE;
        }
        int best = NONE;
        int fewest = MOST_FATS + 1;
        for (int behind = 1; behind <= MOST_SEEN_HOURS; behind++) {
            int left = leftAtWorst(fats, behind * risePerHour);
            if (left < fewest) {
                fewest = left;
                best = behind;
            }
        }
        return best;
    }

    // All FATS from what could rise upwards look alike; each one below it is told apart.
    private static int leftAtWorst(int fats, int couldRise) {
        int alike = Integer.bitCount(fats >> Math.min(couldRise, MOST_FATS));
        return Math.max(1, alike);
    }

    private Child childAt(int child) {
        return isWithin(child, 0, childCount - 1) && child < children.length ? children[child] : null;
    }

    public int child(int child, int what) {
        Child one = childAt(child);
        if (one == null) {
            return UNKNOWN;
        }
        switch (what) {
            case 0:
                return one.kind();
            case CREAM:
            case FILM:
            case BLUE:
                return one.hadOf(what);
            case 4:
                return one.worth();
            case 11:
            case 12:
            case 13:
                return one.worthOf(what - 10);
            default:
                return OUTSIDE;
        }
    }

    public int as(int child, int kind) {
        Child one = childAt(child);
        if (one == null) {
            return UNKNOWN;
        }
        if (!isWithin(kind, CHILD_KIND, JOAN_KIND)) {
            return OUTSIDE;
        }
        return isOfKind(one, kind) ? child : NONE;
    }

    private static boolean isOfKind(Child one, int kind) {
        switch (kind) {
            case HEIR_KIND:
                return one instanceof Heir;
            case SECOND_KIND:
                return one instanceof Second;
            case YOUNGEST_KIND:
                return one instanceof Youngest;
            case JOAN_KIND:
                return one instanceof Joan;
            default:
                return true;
        }
    }

    // ---- what is done

    public int hour() {
        if (!hasDairy()) {
            return STATE;
        }
        if (hoursPassed >= MOST_HOURS) {
            return FULL;
        }
        shelf.standHour();
        hoursPassed++;
        return hoursPassed;
    }

    public int skim(int child, int pan) {
        Child one = childAt(child);
        Pan from = shelf.at(pan);
        if (one == null || from == null) {
            return UNKNOWN;
        }
        int top = from.top();
        if (top == NONE) {
            return STATE;
        }
        if (one.hadOf(top) >= MOST_HAD) {
            return FULL;
        }
        from.takeTop();
        one.have(top);
        return top;
    }

    public int stir(int pan) {
        Pan one = shelf.at(pan);
        if (one == null) {
            return UNKNOWN;
        }
        one.mix();
        return one.fat;
    }

    public int pour(int pan, int fat, int blue) {
        Pan one = shelf.at(pan);
        if (one == null) {
            return UNKNOWN;
        }
        if (!isWithin(fat, 0, MOST_POURED) || !isWithin(blue, 0, MOST_POURED)) {
            return OUTSIDE;
        }
        if (one.all() + fat + blue > MOST_IN_PAN) {
            return FULL;
        }
        one.takeIn(fat, blue);
        return one.all();
    }

    // ---- what would be

    public int later(int pan, int hours, int what) {
        Pan one = shelf.at(pan);
        if (one == null) {
            return UNKNOWN;
        }
        if (!isWithin(hours, 0, MOST_LATER) || !isWithin(what, FAT, BLUE)) {
            return OUTSIDE;
        }
        trialPan.copyFrom(one);
        for (int passed = 0; passed < hours; passed++) {
            trialPan.standHour();
        }
        return trialPan.much(what);
    }

    public int plan(int child, int hours, int what) {
        Child one = childAt(child);
        if (one == null) {
            return UNKNOWN;
        }
        boolean step = isWithin(what, 10, 9 + MOST_PLANNED);
        if (!isWithin(hours, 1, MOST_PLANNED) || what != 0 && !step) {
            return OUTSIDE;
        }
        int most = planner.search(one, shelf, hours);
        return step ? planner.panOfHour(what - 10) : most;
    }

    public int treaty(int a, int b, int what) {
        Child first = childAt(a);
        Child other = childAt(b);
        if (first == null || other == null || a == b) {
            return UNKNOWN;
        }
        if (!isWithin(what, 0, 1)) {
            return OUTSIDE;
        }
        if (treatiesDone >= MOST_TREATIES) {
            return STATE;
        }
        treatiesDone++;
        int ahead = talks.settle(first, other, shelf);
        return what == 0 ? TREATY_MORE + ahead : talks.firstPan();
    }

    public int odds(int pan, int hours, int tenths, int what) {
        Pan one = shelf.at(pan);
        if (one == null) {
            return UNKNOWN;
        }
        if (!isWithin(hours, 1, MOST_ODDS_HOURS) || !isWithin(tenths, 0, TENTHS) || !isWithin(what, 0, 1)) {
            return OUTSIDE;
        }
        int below = 1;
        for (int passed = 0; passed < hours; passed++) {
            below *= TENTHS;
        }
        int above = below - waysWithoutFilm(one, hours, tenths, below);
        int common = commonDivisor(below, above);
        int part = what == 0 ? above : below;
        return common > 0 ? part / common : part;
    }

    /** Of all ways, each HOUR having ten, those in which no CREAM becomes FILM. */
    private static int waysWithoutFilm(Pan pan, int hours, int tenths, int all) {
        // Any FAT begins to rise in the first HOUR: there is CREAM from then on, or never.
        if (pan.fat + pan.cream == 0) {
            return all;
        }
        int phase = pan.still % FILM_HOURS;
        int fresh = phase == 0 ? 1 : 0;
        int once = phase == 1 ? 1 : 0;
        int twice = phase == 2 ? 1 : 0;
        for (int passed = 0; passed < hours; passed++) {
            int disturbed = (fresh + once + twice) * (TENTHS - tenths);
            twice = once * tenths;
            once = fresh * tenths;
            fresh = disturbed;
        }
        return fresh + once + twice;
    }

    private static int commonDivisor(int larger, int smaller) {
        int high = larger;
        int low = smaller;
        for (int turn = 0; turn < 64 && low != 0; turn++) {
            int rest = high % low;
            high = low;
            low = rest;
        }
        return high;
    }

    // ---- what is seen

    public int see(int pan, int hours, int much) {
        if (shelf.at(pan) == null) {
            return UNKNOWN;
        }
        if (!isWithin(hours, 1, MOST_SEEN_HOURS) || !isWithin(much, 0, MOST_SEEN_MUCH)) {
            return OUTSIDE;
        }
        if (sights.isFull()) {
            return FULL;
        }
        sights.add(pan, hours, much);
        return sights.size();
    }

    public int forget() {
        return sights.clear();
    }

    public int nights(int times, int seed, int what) {
        if (!isWithin(times, 1, MOST_NIGHTS) || seed < 0 || !isWithin(what, 0, 2)) {
            return OUTSIDE;
        }
        if (!hasDairy()) {
            return STATE;
        }
        trial.copyFrom(shelf);
        int now = seed;
        int films = 0;
        int worth = 0;
        for (int time = 0; time < times; time++) {
            now = nextSeed(now);
            if (draw(now, 2) == 0) {
                trial.standHour();
                continue;
            }
            now = nextSeed(now);
            Child one = childAt(draw(now, childCount));
            now = nextSeed(now);
            int top = trial.takeFrom(draw(now, trial.size()));
            films += top == FILM ? 1 : 0;
            worth += one == null ? 0 : one.worthOf(top);
        }
        if (what == 2) {
            return now;
        }
        return what == 0 ? films : worth;
    }

    private static int nextSeed(int seed) {
        return (int) ((1103515245L * seed + 12345L) & 0x7fffffffL);
    }

    private static int draw(int seed, int ofHowMany) {
        return ofHowMany <= 0 ? NONE : (seed / 65536) % ofHowMany;
    }

    // ---- what is told of all

    public int image() {
        if (!hasDairy()) {
            return STATE;
        }
        imageShelf.copyFrom(shelf);
        imageSights.copyFrom(sights);
        for (int child = 0; child < childCount; child++) {
            Child one = childAt(child);
            if (one != null) {
                one.keep();
            }
        }
        imageHours = hoursPassed;
        imageKept = true;
        return hoursPassed;
    }

    public int restore() {
        if (!imageKept) {
            return STATE;
        }
        shelf.copyFrom(imageShelf);
        sights.copyFrom(imageSights);
        for (int child = 0; child < childCount; child++) {
            Child one = childAt(child);
            if (one != null) {
                one.goBack();
            }
        }
        hoursPassed = imageHours;
        return hoursPassed;
    }

    public int count(int what) {
        switch (what) {
            case 0:
                return shelf.size();
            case 1:
                return childCount;
            case 2:
            case 3:
            case 4:
            case 5:
                return shelf.sum(what - 2);
            case 6:
                return hoursPassed;
            case 7:
                return worthOfAll();
            case 8:
                return filmOfAll();
            case 9:
                return sights.size();
            case 10:
                return page.size();
            case 11:
                return dairiesRead;
            case LAST_COUNT:
                return treatiesDone;
            default:
                return OUTSIDE;
        }
    }

    private int worthOfAll() {
        int sum = 0;
        for (int child = 0; child < childCount; child++) {
            Child one = childAt(child);
            sum += one == null ? 0 : one.worth();
        }
        return sum;
    }

    private int filmOfAll() {
        int sum = 0;
        for (int child = 0; child < childCount; child++) {
            Child one = childAt(child);
            sum += one == null ? 0 : one.hadOf(FILM);
        }
        return sum;
    }

    // Its loops stay in one method: split further, its calls of plan() would go too deep.
    public long digest() {
        long h = 1213;
        for (int pan = 0; pan < shelf.size(); pan++) {
            for (int what = 0; what <= 8; what++) {
                h = with(h, pan(pan, what));
            }
            for (int what = FAT; what <= BLUE; what++) {
                h = with(h, later(pan, 7, what));
            }
            h = with(h, odds(pan, 4, 5, 0));
            h = with(h, odds(pan, 4, 5, 1));
        }
        for (int child = 0; child < childCount; child++) {
            for (int what = 0; what <= 4; what++) {
                h = with(h, child(child, what));
            }
            for (int what = 11; what <= 13; what++) {
                h = with(h, child(child, what));
            }
            h = with(h, plan(child, 2, 0));
            h = with(h, plan(child, 2, 10));
            h = with(h, plan(child, 2, 11));
        }
        for (int place = 0; place < page.size(); place++) {
            h = with(h, page.at(place));
        }
        for (int what = 0; what <= LAST_COUNT; what++) {
            h = with(h, count(what));
        }
        return h;
    }

    private static long with(long h, long number) {
        return 31 * h + number;
    }

    /** THE PAGE, and how far it reads as a DAIRY. */
    private static final class Page {
        private static final int SILL = 0, FAT_DIGIT = 1, BLUE_DIGIT = 2, PAN_END = 3, KIND = 4, CHILD_END = 5;

        private final char[] letters = new char[MOST_LETTERS];
        private int length;
        private int expected;
        private int pansRead;
        private int childrenRead;

        boolean isFull() {
            return length >= letters.length;
        }

        int size() {
            return length;
        }

        void add(char letter) {
            if (!isFull()) {
                letters[length] = letter;
                length++;
            }
        }

        int clear() {
            int had = length;
            length = 0;
            return had;
        }

        char at(int place) {
            return place >= 0 && place < length && place < letters.length ? letters[place] : 0;
        }

        /** How many PANS the last reading went through. */
        int pans() {
            return pansRead;
        }

        int children() {
            return childrenRead;
        }

        int startOfPan(int pan) {
            return 4 * pan;
        }

        int startOfChild(int child) {
            return 4 * pansRead + 2 * child;
        }

        boolean isDairy() {
            return firstWrong() == length && expected == CHILD_END && childrenRead >= LEAST_CHILDREN;
        }

        int firstWrong() {
            expected = SILL;
            pansRead = 0;
            childrenRead = 0;
            for (int place = 0; place < length; place++) {
                int next = expectedBehind(at(place));
                if (next == NONE) {
                    return place;
                }
                pansRead += next == PAN_END ? 1 : 0;
                childrenRead += next == CHILD_END ? 1 : 0;
                expected = next;
            }
            return length;
        }

        private int expectedBehind(char letter) {
            switch (expected) {
                case SILL:
                    return SILLS.indexOf(letter) >= 0 ? FAT_DIGIT : NONE;
                case FAT_DIGIT:
                    return isDigit(letter) ? BLUE_DIGIT : NONE;
                case BLUE_DIGIT:
                    return isDigit(letter) ? PAN_END : NONE;
                case PAN_END:
                    if (letter == ';') {
                        return KIND;
                    }
                    return letter == ',' && pansRead < MOST_PANS ? SILL : NONE;
                case KIND:
                    return KINDS.indexOf(letter) >= 0 ? CHILD_END : NONE;
                default:
                    return letter == ',' && childrenRead < MOST_CHILDREN ? KIND : NONE;
            }
        }

        private static boolean isDigit(char letter) {
            return letter >= '0' && letter <= '9';
        }
    }

    private static final class Pan {
        private int sill;
        private int still;
        private int fat;
        private int cream;
        private int film;
        private int blue;

        void fill(int newSill, int newFat, int newBlue) {
            sill = newSill;
            still = 0;
            fat = newFat;
            cream = 0;
            film = 0;
            blue = newBlue;
        }

        void copyFrom(Pan other) {
            sill = other.sill;
            still = other.still;
            fat = other.fat;
            cream = other.cream;
            film = other.film;
            blue = other.blue;
        }

        int risePerHour() {
            return 1 + sill;
        }

        void standHour() {
            int rising = Math.min(fat, risePerHour());
            fat -= rising;
            cream += rising;
            still++;
            if (still % FILM_HOURS == 0 && cream > 0) {
                cream--;
                film++;
            }
        }

        int top() {
            if (film > 0) {
                return FILM;
            }
            if (cream > 0) {
                return CREAM;
            }
            return blue > 0 ? BLUE : NONE;
        }

        void takeTop() {
            switch (top()) {
                case FILM:
                    film--;
                    break;
                case CREAM:
                    cream--;
                    break;
                case BLUE:
                    blue--;
                    break;
                default:
                    return;
            }
            still = 0;
        }

        void mix() {
            fat += cream + film;
            cream = 0;
            film = 0;
            still = 0;
        }

        void takeIn(int moreFat, int moreBlue) {
            fat += moreFat;
            blue += moreBlue;
            still = 0;
        }

        int much(int what) {
            switch (what) {
                case FAT:
                    return fat;
                case CREAM:
                    return cream;
                case FILM:
                    return film;
                default:
                    return blue;
            }
        }

        int onIt() {
            return film + cream + blue;
        }

        int all() {
            return fat + onIt();
        }

        /** CREAM and FILM together behind so many HOURS, if there were so much FAT now. */
        int risenBehind(int behind, int ifFat) {
            return cream + film + Math.min(ifFat, behind * risePerHour());
        }
    }

    /** The PANS that stand together. */
    private static final class Shelf {
        private final Pan[] pans = new Pan[MOST_PANS];
        private int count;

        Shelf() {
            for (int pan = 0; pan < pans.length; pan++) {
                pans[pan] = new Pan();
            }
        }

        int size() {
            return count;
        }

        Pan at(int pan) {
            return pan >= 0 && pan < count && pan < pans.length ? pans[pan] : null;
        }

        void clear() {
            count = 0;
        }

        void add(int sill, int fat, int blue) {
            if (count < pans.length) {
                pans[count].fill(sill, fat, blue);
                count++;
            }
        }

        void copyFrom(Shelf other) {
            count = Math.min(other.count, pans.length);
            for (int pan = 0; pan < count; pan++) {
                pans[pan].copyFrom(other.pans[pan]);
            }
        }

        void standHour() {
            for (int pan = 0; pan < count; pan++) {
                pans[pan].standHour();
            }
        }

        int topOf(int pan) {
            Pan one = at(pan);
            return one == null ? NONE : one.top();
        }

        /** What is on top is taken and told; NONE if there is nothing. */
        int takeFrom(int pan) {
            Pan one = at(pan);
            if (one == null) {
                return NONE;
            }
            int top = one.top();
            one.takeTop();
            return top;
        }

        boolean isBare() {
            for (int pan = 0; pan < count; pan++) {
                if (pans[pan].top() != NONE) {
                    return false;
                }
            }
            return true;
        }

        int sum(int what) {
            int sum = 0;
            for (int pan = 0; pan < count; pan++) {
                sum += pans[pan].much(what);
            }
            return sum;
        }
    }

    private static class Child {
        private final int[] had = new int[BLUE + 1];
        private final int[] kept = new int[BLUE + 1];

        int kind() {
            return CHILD_KIND;
        }

        int filmWorth() {
            return 4;
        }

        int creamWorth() {
            return 2;
        }

        int blueWorth() {
            return 1;
        }

        final int worthOf(int what) {
            switch (what) {
                case CREAM:
                    return creamWorth();
                case FILM:
                    return filmWorth();
                case BLUE:
                    return blueWorth();
                default:
                    return 0;
            }
        }

        final int hadOf(int what) {
            return what >= CREAM && what <= BLUE ? had[what] : 0;
        }

        final void have(int what) {
            if (what >= CREAM && what <= BLUE) {
                had[what]++;
            }
        }

        final int worth() {
            return had[CREAM] * creamWorth() + had[FILM] * filmWorth() + had[BLUE] * blueWorth();
        }

        final void keep() {
            System.arraycopy(had, 0, kept, 0, had.length);
        }

        final void goBack() {
            System.arraycopy(kept, 0, had, 0, kept.length);
        }
    }

    private static final class Heir extends Child {
        @Override
        int kind() {
            return HEIR_KIND;
        }

        @Override
        int creamWorth() {
            return 2 * super.creamWorth();
        }

        @Override
        int blueWorth() {
            return 0;
        }
    }

    private static final class Second extends Child {
        @Override
        int kind() {
            return SECOND_KIND;
        }

        @Override
        int creamWorth() {
            return super.creamWorth() - 1;
        }

        @Override
        int blueWorth() {
            return super.blueWorth() + 1;
        }
    }

    private static class Youngest extends Child {
        @Override
        int kind() {
            return YOUNGEST_KIND;
        }

        @Override
        int filmWorth() {
            return 2 * super.filmWorth();
        }
    }

    private static final class Joan extends Youngest {
        @Override
        int kind() {
            return JOAN_KIND;
        }

        @Override
        int filmWorth() {
            return 2 * super.filmWorth();
        }

        @Override
        int creamWorth() {
            return 0;
        }

        @Override
        int blueWorth() {
            return 0;
        }
    }

    /** Tries every order of PANS for one child, with a shelf of its own for each HOUR. */
    private static final class Planner {
        private final Shelf[] shelves = new Shelf[MOST_PLANNED];
        // For each HOUR the PANS from it on, each 1 more, two bits an HOUR: 0 is waiting.
        private final int[] paths = new int[MOST_PLANNED + 1];

        Planner() {
            for (int depth = 0; depth < shelves.length; depth++) {
                shelves[depth] = new Shelf();
            }
        }

        int search(Child one, Shelf now, int hours) {
            if (hours < 1 || hours > shelves.length) {
                return 0;
            }
            shelves[0].copyFrom(now);
            paths[hours] = 0;
            return mostFrom(one, 0, hours);
        }

        int panOfHour(int hour) {
            return ((paths[0] >> (2 * hour)) & 3) - 1;
        }

        private int mostFrom(Child one, int depth, int hours) {
            if (depth < 0 || depth >= hours || depth >= shelves.length) {
                return 0;
            }
            Shelf here = shelves[depth];
            if (here.isBare()) {
                int most = mostBehind(one, depth, hours, NONE);
                note(depth, NONE);
                return most;
            }
            int most = NONE;
            for (int pan = 0; pan < here.size(); pan++) {
                int top = here.topOf(pan);
                if (top == NONE) {
                    continue;
                }
                int worth = one.worthOf(top) + mostBehind(one, depth, hours, pan);
                if (worth > most) {
                    most = worth;
                    note(depth, pan);
                }
            }
            return most;
        }

        private int mostBehind(Child one, int depth, int hours, int pan) {
            int next = depth + 1;
            if (next >= hours || next >= shelves.length) {
                return 0;
            }
            shelves[next].copyFrom(shelves[depth]);
            shelves[next].takeFrom(pan);
            shelves[next].standHour();
            return mostFrom(one, next, hours);
        }

        private void note(int depth, int pan) {
            paths[depth] = ((pan + 1) << (2 * depth)) | paths[depth + 1];
        }
    }

    /** What two come to: how far a is ahead, from every number of things left in each PAN. */
    private static final class Treaty {
        private static final int ROW = MOST_IN_PAN + 1;

        // Only the layer of the first PAN at hand is held: what is left in the others is the place.
        private final int[] ahead = new int[ROW * ROW];
        private final int[] forA = new int[MOST_PANS * ROW];
        private final int[] forB = new int[MOST_PANS * ROW];
        private int best;
        private int bestPan;

        int firstPan() {
            return bestPan;
        }

        int settle(Child a, Child b, Shelf shelf) {
            int first = layOut(0, shelf.at(0), a, b);
            int second = layOut(1, shelf.at(1), a, b);
            int third = layOut(2, shelf.at(2), a, b);
            int all = first + second + third;
            for (int x = 0; x <= first; x++) {
                for (int y = 0; y <= second; y++) {
                    for (int z = 0; z <= third; z++) {
                        weigh(x, y, z, (all - x - y - z) % 2 == 0);
                    }
                }
            }
            return best;
        }

        /** What is on top is WORTH to each, by how much is left in the PAN: how much there is on it. */
        private int layOut(int number, Pan pan, Child a, Child b) {
            if (pan == null) {
                return 0;
            }
            int most = Math.min(pan.onIt(), MOST_IN_PAN);
            for (int left = 1; left <= most; left++) {
                int top = left <= pan.blue ? BLUE : left <= pan.blue + pan.cream ? CREAM : FILM;
                forA[number * ROW + left] = a.worthOf(top);
                forB[number * ROW + left] = b.worthOf(top);
            }
            return most;
        }

        private void weigh(int x, int y, int z, boolean aTakes) {
            int place = y * ROW + z;
            best = 0;
            bestPan = NONE;
            if (x > 0) {
                consider(0, x, ahead[place], aTakes);
            }
            if (y > 0) {
                consider(1, y, ahead[place - ROW], aTakes);
            }
            if (z > 0) {
                consider(2, z, ahead[place - 1], aTakes);
            }
            ahead[place] = best;
        }

        private void consider(int pan, int left, int behind, boolean aTakes) {
            int place = pan * ROW + left;
            int value = aTakes ? behind + forA[place] : behind - forB[place];
            if (bestPan == NONE || (aTakes ? value > best : value < best)) {
                best = value;
                bestPan = pan;
            }
        }
    }

    /** What is SEEN. */
    private static final class Sights {
        private final int[] pans = new int[MOST_SEEN];
        private final int[] behind = new int[MOST_SEEN];
        private final int[] much = new int[MOST_SEEN];
        private int count;

        int size() {
            return count;
        }

        boolean isFull() {
            return count >= MOST_SEEN;
        }

        void add(int pan, int hours, int howMuch) {
            if (!isFull()) {
                pans[count] = pan;
                behind[count] = hours;
                much[count] = howMuch;
                count++;
            }
        }

        int clear() {
            int had = count;
            count = 0;
            return had;
        }

        void copyFrom(Sights other) {
            System.arraycopy(other.pans, 0, pans, 0, MOST_SEEN);
            System.arraycopy(other.behind, 0, behind, 0, MOST_SEEN);
            System.arraycopy(other.much, 0, much, 0, MOST_SEEN);
            count = other.count;
        }

        int fats(int number, Pan pan) {
            int bits = 0;
            for (int fat = 0; fat < MOST_FATS; fat++) {
                if (canBe(number, pan, fat)) {
                    bits |= 1 << fat;
                }
            }
            return bits;
        }

        private boolean canBe(int number, Pan pan, int fat) {
            for (int i = 0; i < count; i++) {
                if (pans[i] == number && pan.risenBehind(behind[i], fat) != much[i]) {
                    return false;
                }
            }
            return true;
        }
    }
}
