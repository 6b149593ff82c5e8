/** A quarrel of astronomers over a smudge that one of them saw near a star. */
public final class SmudgedStar {
    private static final int MOST_THINGS = 8;
    private static final int MOST_NIGHTS = 40;
    private static final int MOST_ASTRONOMERS = 8;
    private static final int MOST_STUBBORNNESS = 5;
    private static final int SETS = 1 << MOST_THINGS;
    private static final int NO_SET = -1;
    private static final long DIGEST_START = 1951L;
    private static final long DIGEST_FACTOR = 31L;

    private int thingCount;

    private int nightCount;
    private final int[] usedThings;
    private final boolean[] smudgeSeen;

    // How many nights each set does not explain. It is kept for all 256 sets, not only for those
    // of the things there are: a thing still to come was used in no night, so it changes no count
    // and addThing has nothing to bring up to date.
    private final int[] missedNights;

    private int astronomerCount;
    private final int[] blamedThings;
    private final int[] stubbornnessLeft;
    private final int[] stubbornnessAtFirst;
    private int mindsChanged;

    public SmudgedStar() {
        thingCount = 0;
        nightCount = 0;
        usedThings = new int[MOST_NIGHTS];
        smudgeSeen = new boolean[MOST_NIGHTS];
        missedNights = new int[SETS];
        astronomerCount = 0;
        blamedThings = new int[MOST_ASTRONOMERS];
        stubbornnessLeft = new int[MOST_ASTRONOMERS];
        stubbornnessAtFirst = new int[MOST_ASTRONOMERS];
        mindsChanged = 0;
    }

    // ---- what is told

    public int addThing() throws IllegalStateException {
        if (thingCount >= MOST_THINGS) {
            throw new IllegalStateException("there are 8 things");
        }
        int thing = thingCount;
        thingCount++;
        return thing;
    }

    public int addAstronomer(int stubbornness) throws IllegalArgumentException, IllegalStateException {
        if (stubbornness < 0 || stubbornness > MOST_STUBBORNNESS) {
            throw new IllegalArgumentException("stubbornness is not 0 to 5");
        }
        if (astronomerCount >= MOST_ASTRONOMERS) {
            throw new IllegalStateException("there are 8 astronomers");
        }
        int astronomer = astronomerCount;
        stubbornnessAtFirst[astronomer] = stubbornness;
        letBlame(astronomer, 0);
        astronomerCount++;
        return astronomer;
    }

    public int blame(int astronomer, int things) throws IndexOutOfBoundsException, IllegalArgumentException {
        requireAstronomer(astronomer);
        requireSet(things);
        int before = blamedThings[astronomer];
        letBlame(astronomer, things);
        return before;
    }

    public int writeDown(int things, boolean smudged) throws IllegalArgumentException, IllegalStateException {
        requireUsableSet(things);
        requireRoomForNight();
        usedThings[nightCount] = things;
        smudgeSeen[nightCount] = smudged;
        nightCount++;
        countMisses(things, smudged, 1);
        int changed = letAstronomersSee(things, smudged);
        mindsChanged += changed;
        return changed;
    }

    public int strike(int night) throws IndexOutOfBoundsException {
        requireNight(night);
        countMisses(usedThings[night], smudgeSeen[night], -1);
        for (int next = night + 1; next < nightCount; next++) {
            usedThings[next - 1] = usedThings[next];
            smudgeSeen[next - 1] = smudgeSeen[next];
        }
        nightCount--;
        return nightCount;
    }

    // ---- things

    public int things() {
        return thingCount;
    }

    public int nightsWith(int thing) throws IndexOutOfBoundsException {
        requireThing(thing);
        int count = 0;
        for (int night = 0; night < nightCount; night++) {
            if (holds(usedThings[night], thing)) {
                count++;
            }
        }
        return count;
    }

    public int smudgesWith(int thing) throws IndexOutOfBoundsException {
        requireThing(thing);
        int count = 0;
        for (int night = 0; night < nightCount; night++) {
            if (smudgeSeen[night] && holds(usedThings[night], thing)) {
                count++;
            }
        }
        return count;
    }

    public boolean isCleared(int thing) throws IndexOutOfBoundsException {
        requireThing(thing);
        return holds(clearedThings(), thing);
    }

    public boolean isProved(int thing) throws IndexOutOfBoundsException {
        requireThing(thing);
        int clearedOrThis = clearedThings() | setOf(thing);
        for (int night = 0; night < nightCount; night++) {
            int used = usedThings[night];
            if (smudgeSeen[night] && holds(used, thing) && (used & ~clearedOrThis) == 0) {
                return true;
            }
        }
        return false;
    }

    public int setsWith(int thing) throws IndexOutOfBoundsException {
        requireThing(thing);
        return explanationsMeeting(setOf(thing));
    }

    // ---- nights

    public int nights() {
        return nightCount;
    }

    public int smudges() {
        int count = 0;
        for (int night = 0; night < nightCount; night++) {
            if (smudgeSeen[night]) {
                count++;
            }
        }
        return count;
    }

    public int usedIn(int night) throws IndexOutOfBoundsException {
        requireNight(night);
        return usedThings[night];
    }

    public boolean isSmudged(int night) throws IndexOutOfBoundsException {
        requireNight(night);
        return smudgeSeen[night];
    }

    public boolean agree() {
        return nightsToDoubt() == 0;
    }

    // ---- astronomers

    public int astronomers() {
        return astronomerCount;
    }

    public int blamedBy(int astronomer) throws IndexOutOfBoundsException {
        requireAstronomer(astronomer);
        return blamedThings[astronomer];
    }

    public int stubbornnessOf(int astronomer) throws IndexOutOfBoundsException {
        requireAstronomer(astronomer);
        return stubbornnessLeft[astronomer];
    }

    public int unexplainedBy(int astronomer) throws IndexOutOfBoundsException {
        requireAstronomer(astronomer);
        return missesOf(blamedThings[astronomer]);
    }

    public int votesFor(int thing) throws IndexOutOfBoundsException {
        requireThing(thing);
        int votes = 0;
        for (int astronomer = 0; astronomer < astronomerCount; astronomer++) {
            if (holds(blamedThings[astronomer], thing)) {
                votes++;
            }
        }
        return votes;
    }

    public int vote() {
        int blamed = 0;
        for (int thing = 0; thing < thingCount; thing++) {
            if (votesFor(thing) * 2 > astronomerCount) {
                blamed |= setOf(thing);
            }
        }
        return blamed;
    }

    public int changesOfMind() {
        return mindsChanged;
    }

    // ---- what follows

    public boolean explainsAll(int things) throws IllegalArgumentException {
        requireSet(things);
        return missesOf(things) == 0;
    }

    public int explanations() {
        int count = 0;
        for (int set = 0; set <= allThings(); set++) {
            if (missesOf(set) == 0) {
                count++;
            }
        }
        return count;
    }

    public int simplest() {
        int best = NO_SET;
        int fewest = MOST_THINGS + 1;
        for (int set = 0; set <= allThings(); set++) {
            if (missesOf(set) == 0 && Integer.bitCount(set) < fewest) {
                best = set;
                fewest = Integer.bitCount(set);
            }
        }
        return best;
    }

    public int surelyToBlame() {
        if (!agree()) {
            return NO_SET;
        }
        int sure = allThings();
        for (int set = 0; set <= allThings(); set++) {
            if (missesOf(set) == 0) {
                sure &= set;
            }
        }
        return sure;
    }

    public int nightsToDoubt() {
        int fewest = nightCount;
        for (int set = 0; set <= allThings(); set++) {
            fewest = Math.min(fewest, missesOf(set));
        }
        return fewest;
    }

    public int leftIfSmudged(int things) throws IllegalArgumentException {
        requireUsableSet(things);
        return explanationsMeeting(things);
    }

    public int bestNight() {
        int best = NO_SET;
        int leastLeft = SETS + 1;
        int now = explanations();
        // No night can leave less than half of them for sure, so the first that leaves half ends the search.
        int half = (now + 1) / 2;
        for (int used = 1; used <= allThings() && leastLeft > half; used++) {
            int leftWithSmudge = explanationsMeeting(used);
            int left = Math.max(leftWithSmudge, now - leftWithSmudge);
            if (left < leastLeft) {
                best = used;
                leastLeft = left;
            }
        }
        return best;
    }

    public int wouldChange(int things, boolean smudged) throws IllegalArgumentException, IllegalStateException {
        requireUsableSet(things);
        requireRoomForNight();
        if (!wouldAgreeWith(things, smudged)) {
            return 0;
        }
        int changed = 0;
        for (int astronomer = 0; astronomer < astronomerCount; astronomer++) {
            if (!explains(blamedThings[astronomer], things, smudged) && stubbornnessLeft[astronomer] == 0) {
                changed++;
            }
        }
        return changed;
    }

    public double meanBlame() {
        if (astronomerCount == 0) {
            return 0.0;
        }
        int blamed = 0;
        for (int astronomer = 0; astronomer < astronomerCount; astronomer++) {
            blamed += Integer.bitCount(blamedThings[astronomer]);
        }
        return (double) blamed / (double) astronomerCount;
    }

    public long digest() {
        long d = DIGEST_START;
        d = mixed(d, things());
        d = mixed(d, nights());
        d = mixed(d, smudges());
        d = mixed(d, oneIf(agree()));
        d = mixed(d, astronomers());
        d = mixed(d, vote());
        d = mixed(d, changesOfMind());
        d = mixed(d, explanations());
        d = mixed(d, simplest());
        d = mixed(d, surelyToBlame());
        d = mixedWithThings(d);
        d = mixedWithNights(d);
        return mixedWithAstronomers(d);
    }

    // ---- the checks of arguments

    private void requireThing(int thing) {
        if (thing < 0 || thing >= thingCount) {
            throw new IndexOutOfBoundsException("there is no such thing");
        }
    }

    private void requireNight(int night) {
        if (night < 0 || night >= nightCount) {
            throw new IndexOutOfBoundsException("there is no such night");
        }
    }

    private void requireAstronomer(int astronomer) {
        if (astronomer < 0 || astronomer >= astronomerCount) {
            throw new IndexOutOfBoundsException("there is no such astronomer");
        }
    }

    private void requireSet(int things) {
        if (things < 0 || things > allThings()) {
            throw new IllegalArgumentException("things is not 0 to the set of all things");
        }
    }

    private void requireUsableSet(int things) {
        if (things < 1 || things > allThings()) {
            throw new IllegalArgumentException("things is not 1 to the set of all things");
        }
    }

    private void requireRoomForNight() {
        if (nightCount >= MOST_NIGHTS) {
            throw new IllegalStateException("there are 40 nights");
        }
    }

    // ---- sets of things

    private int allThings() {
        return (1 << thingCount) - 1;
    }

    private static int setOf(int thing) {
        return 1 << thing;
    }

    private static boolean holds(int set, int thing) {
        return (set & setOf(thing)) != 0;
    }

    private static boolean explains(int set, int used, boolean smudged) {
        return ((set & used) != 0) == smudged;
    }

    private int clearedThings() {
        int cleared = 0;
        for (int night = 0; night < nightCount; night++) {
            if (!smudgeSeen[night]) {
                cleared |= usedThings[night];
            }
        }
        return cleared;
    }

    // ---- which sets explain all nights

    private void countMisses(int used, boolean smudged, int step) {
        for (int set = 0; set < SETS; set++) {
            if (!explains(set, used, smudged)) {
                missedNights[set] += step;
            }
        }
    }

    // The mask changes no set; with it the index is in the row for any number whatever.
    private int missesOf(int set) {
        return missedNights[set & (SETS - 1)];
    }

    private int explanationsMeeting(int things) {
        int count = 0;
        for (int set = 0; set <= allThings(); set++) {
            if ((set & things) != 0 && missesOf(set) == 0) {
                count++;
            }
        }
        return count;
    }

    private boolean wouldAgreeWith(int used, boolean smudged) {
        for (int set = 0; set <= allThings(); set++) {
            if (missesOf(set) == 0 && explains(set, used, smudged)) {
                return true;
            }
        }
        return false;
    }

    // ---- what astronomers believe

    private void letBlame(int astronomer, int things) {
        blamedThings[astronomer] = things;
        stubbornnessLeft[astronomer] = stubbornnessAtFirst[astronomer];
    }

    // A set taken up explains the night and the one given up does not, so each is a change of mind.
    private int letAstronomersSee(int used, boolean smudged) {
        int explanation = simplest();
        int changed = 0;
        for (int astronomer = 0; astronomer < astronomerCount; astronomer++) {
            if (explains(blamedThings[astronomer], used, smudged)) {
                continue;
            }
            if (stubbornnessLeft[astronomer] > 0) {
                stubbornnessLeft[astronomer]--;
            } else if (explanation != NO_SET) {
                letBlame(astronomer, explanation);
                changed++;
            }
        }
        return changed;
    }

    // ---- the checksum

    private static long mixed(long d, long x) {
        return d * DIGEST_FACTOR + x;
    }

    private static long oneIf(boolean so) {
        return so ? 1L : 0L;
    }

    private long mixedWithThings(long start) {
        long d = start;
        for (int thing = 0; thing < thingCount; thing++) {
            d = mixed(d, nightsWith(thing));
            d = mixed(d, smudgesWith(thing));
            d = mixed(d, oneIf(isCleared(thing)));
            d = mixed(d, oneIf(isProved(thing)));
            d = mixed(d, setsWith(thing));
            d = mixed(d, votesFor(thing));
        }
        return d;
    }

    private long mixedWithNights(long start) {
        long d = start;
        for (int night = 0; night < nightCount; night++) {
            d = mixed(d, usedIn(night));
            d = mixed(d, oneIf(isSmudged(night)));
        }
        return d;
    }

    private long mixedWithAstronomers(long start) {
        long d = start;
        for (int astronomer = 0; astronomer < astronomerCount; astronomer++) {
            d = mixed(d, blamedBy(astronomer));
            d = mixed(d, stubbornnessOf(astronomer));
            d = mixed(d, unexplainedBy(astronomer));
        }
        return d;
    }
}
