import java.util.Arrays;

/** A scorer for one hand of a game with tiles. */
public final class TileHand {
    private static final int KINDS = 34;
    private static final int VALUES = 9;
    private static final int FIRST_HONOUR = 27;
    private static final int FIRST_WIND = 27;
    private static final int LAST_WIND = 30;
    private static final int FIRST_DRAGON = 31;
    private static final int COPIES = 4;
    private static final int FULL_SIZE = 14;
    private static final int SETS = 4;
    private static final int SET_SIZE = 3;
    private static final int ROW = 0;
    private static final int THREE = 1;
    private static final int FOUR = 2;
    private static final int PAIRS_FANS = 2;
    private static final int ORPHANS_FANS = 13;
    private static final int NONE = -1;

    private final int[] hand = new int[KINDS];
    private final int[] laid = new int[KINDS];
    private final int[] seen = new int[KINDS];

    // The melds stand first, in their order; the places behind them are free
    // for the groups of the arrangement that is being looked at, so that both
    // are scored alike.
    private final int[] setSorts = new int[SETS];
    private final int[] setKinds = new int[SETS];
    private final boolean[] meldOpen = new boolean[SETS];

    private final Cover cover = new Cover();
    private int tileCount;
    private int meldCount;
    private int seatWind;
    private int roundWind;
    private int basePoints;
    private int fanLimit;

    public TileHand() {
        seatWind = FIRST_WIND;
        roundWind = FIRST_WIND;
        basePoints = 1;
        fanLimit = 8;
    }

    // ---- tiles

    public int draw(int kind) throws IndexOutOfBoundsException, IllegalStateException {
        requireKind(kind);
        if (sizeNow() >= FULL_SIZE) {
            throw new IllegalStateException("the hand is full");
        }
        requireLeft(kind);
        addTiles(kind, 1);
        return sizeNow();
    }

    public int drop(int kind) throws IndexOutOfBoundsException, IllegalStateException {
        requireKind(kind);
        requireHeld(kind, 1);
        addTiles(kind, -1);
        seen[kind]++;
        return sizeNow();
    }

    public int see(int kind) throws IndexOutOfBoundsException, IllegalStateException {
        requireKind(kind);
        requireLeft(kind);
        seen[kind]++;
        return tilesLeft(kind);
    }

    public int meld(int sort, int kind, boolean isOpen)
            throws IndexOutOfBoundsException, IllegalArgumentException, IllegalStateException {
        requireKind(kind);
        if (sort < ROW || sort > FOUR) {
            throw new IllegalArgumentException("no such sort of meld");
        }
        if (sort == ROW && !beginsRow(kind)) {
            throw new IllegalArgumentException("no such ROW");
        }
        if (meldCount >= SETS) {
            throw new IllegalStateException("there are four melds");
        }
        if (sort == ROW) {
            layRow(kind);
        } else {
            layAlike(kind, sort == FOUR ? 4 : 3);
        }
        setSorts[meldCount] = sort;
        setKinds[meldCount] = kind;
        meldOpen[meldCount] = isOpen;
        meldCount++;
        return sizeNow();
    }

    public int grow(int kind) throws IndexOutOfBoundsException, IllegalStateException {
        requireKind(kind);
        int meld = findThree(kind);
        if (meld == NONE) {
            throw new IllegalStateException("no such THREE was laid");
        }
        layAlike(kind, 1);
        setSorts[meld] = FOUR;
        return sizeNow();
    }

    public int begin() {
        int before = sizeNow();
        Arrays.fill(hand, 0);
        Arrays.fill(laid, 0);
        Arrays.fill(seen, 0);
        tileCount = 0;
        meldCount = 0;
        return before;
    }

    public int size() {
        return sizeNow();
    }

    public int count(int kind, boolean isSeen) throws IndexOutOfBoundsException {
        requireKind(kind);
        return isSeen ? seen[kind] : hand[kind];
    }

    public int melds() {
        return meldCount;
    }

    public int meldAt(int meld, int what) throws IndexOutOfBoundsException {
        if (meld < 0 || meld >= meldCount) {
            throw new IndexOutOfBoundsException("no such meld");
        }
        if (what < 0 || what > 2) {
            throw new IndexOutOfBoundsException("a meld tells 0 to 2 only");
        }
        return tellMeld(meld, what);
    }

    // ---- what it is worth having

    public boolean isComplete() {
        return bestArrangement() != NONE;
    }

    public long waits() {
        long set = 0;
        if (sizeNow() != FULL_SIZE - 1) {
            return set;
        }
        for (int kind = 0; kind < KINDS; kind++) {
            if (hand[kind] + laid[kind] < COPIES) {
                addTiles(kind, 1);
                if (bestArrangement() != NONE) {
                    set |= 1L << kind;
                }
                addTiles(kind, -1);
            }
        }
        return set;
    }

    public int outs() {
        long set = waits();
        int tiles = 0;
        for (int kind = 0; kind < KINDS; kind++) {
            if (isIn(kind, set)) {
                tiles += tilesLeft(kind);
            }
        }
        return tiles;
    }

    public int missing() {
        int open = SETS - meldCount;
        int least = FULL_SIZE - SET_SIZE * meldCount - cover.mostHeld(hand, laid, open);
        if (meldCount == 0) {
            least = Math.min(least, FULL_SIZE - heldByPairs());
            least = Math.min(least, FULL_SIZE - heldByOrphans());
        }
        return least;
    }

    public int advice() throws IllegalStateException {
        if (tileCount == 0) {
            throw new IllegalStateException("there are no tiles in the hand");
        }
        // No drop makes fewer tiles missing, so the first one that keeps
        // their number is the best.
        int before = missing();
        int least = FULL_SIZE + 1;
        int best = NONE;
        for (int kind = 0; kind < KINDS && least > before; kind++) {
            if (hand[kind] > 0) {
                addTiles(kind, -1);
                int behind = missing();
                addTiles(kind, 1);
                if (behind < least) {
                    least = behind;
                    best = kind;
                }
            }
        }
        return best;
    }

    // ---- score

    public int setWinds(int seat, int round) throws IllegalArgumentException {
        if (!isWind(seat) || !isWind(round)) {
            throw new IllegalArgumentException("a wind is 27 to 30");
        }
        int before = seatWind;
        seatWind = seat;
        roundWind = round;
        return before;
    }

    public int setPoints(int base, int limit) throws IllegalArgumentException {
        if (base < 1 || base > 100) {
            throw new IllegalArgumentException("a base is 1 to 100");
        }
        if (limit < 1 || limit > 13) {
            throw new IllegalArgumentException("a limit is 1 to 13");
        }
        int before = fanLimit;
        basePoints = base;
        fanLimit = limit;
        return before;
    }

    public int fans(boolean isSelf) throws IllegalStateException {
        int fans = fansNow(isSelf);
        requireComplete(fans);
        return fans;
    }

    public int points(boolean isSelf) throws IllegalStateException {
        int fans = fansNow(isSelf);
        requireComplete(fans);
        return pointsFor(fans);
    }

    public double meanPoints(boolean isSelf) {
        long set = waits();
        long sum = 0;
        int tiles = 0;
        for (int kind = 0; kind < KINDS; kind++) {
            int left = tilesLeft(kind);
            if (isIn(kind, set) && left > 0) {
                addTiles(kind, 1);
                sum += (long) left * pointsFor(fansNow(isSelf));
                addTiles(kind, -1);
                tiles += left;
            }
        }
        return tiles == 0 ? 0.0 : (double) sum / (double) tiles;
    }

    public long digest() {
        long d = 271;
        for (int kind = 0; kind < KINDS; kind++) {
            d = d * 31 + hand[kind];
            d = d * 31 + seen[kind];
        }
        d = d * 31 + meldCount;
        for (int meld = 0; meld < meldCount && meld < SETS; meld++) {
            for (int what = 0; what <= 2; what++) {
                d = d * 31 + tellMeld(meld, what);
            }
        }
        d = d * 31 + seatWind;
        d = d * 31 + roundWind;
        d = d * 31 + basePoints;
        d = d * 31 + fanLimit;
        d = d * 31 + waits();
        return d * 31 + missing();
    }

    // ---- kinds

    private static boolean isKind(int kind) {
        return kind >= 0 && kind < KINDS;
    }

    private static boolean isWind(int kind) {
        return kind >= FIRST_WIND && kind <= LAST_WIND;
    }

    private static boolean isHonour(int kind) {
        return kind >= FIRST_HONOUR;
    }

    private static boolean isEnd(int kind) {
        int value = kind % VALUES;
        return !isHonour(kind) && (value == 0 || value == VALUES - 1);
    }

    private static boolean beginsRow(int kind) {
        return kind >= 0 && kind < FIRST_HONOUR && kind % VALUES <= VALUES - SET_SIZE;
    }

    private static boolean isIn(int kind, long set) {
        return (set >> kind & 1L) != 0;
    }

    // ---- tiles and melds

    private static void requireKind(int kind) {
        if (!isKind(kind)) {
            throw new IndexOutOfBoundsException("no such kind");
        }
    }

    private void requireLeft(int kind) {
        if (tilesLeft(kind) <= 0) {
            throw new IllegalStateException("no tile of this kind is left");
        }
    }

    private void requireHeld(int kind, int tiles) {
        if (hand[kind] < tiles) {
            throw new IllegalStateException("the hand does not have these tiles");
        }
    }

    private int sizeNow() {
        return tileCount + SET_SIZE * meldCount;
    }

    private int tilesLeft(int kind) {
        return COPIES - hand[kind] - laid[kind] - seen[kind];
    }

    private void addTiles(int kind, int tiles) {
        hand[kind] += tiles;
        tileCount += tiles;
    }

    /** The caller has tested that a ROW begins with this kind. */
    private void layRow(int kind) {
        for (int k = kind; k < kind + SET_SIZE; k++) {
            requireHeld(k, 1);
        }
        for (int k = kind; k < kind + SET_SIZE; k++) {
            layAlike(k, 1);
        }
    }

    private void layAlike(int kind, int tiles) {
        requireHeld(kind, tiles);
        addTiles(kind, -tiles);
        laid[kind] += tiles;
    }

    private int findThree(int kind) {
        for (int meld = 0; meld < meldCount && meld < SETS; meld++) {
            if (setSorts[meld] == THREE && setKinds[meld] == kind) {
                return meld;
            }
        }
        return NONE;
    }

    private int tellMeld(int meld, int what) {
        if (what == 0) {
            return setSorts[meld];
        }
        if (what == 1) {
            return setKinds[meld];
        }
        return meldOpen[meld] ? 1 : 0;
    }

    private boolean hasOpenMeld() {
        for (int meld = 0; meld < meldCount && meld < SETS; meld++) {
            if (meldOpen[meld]) {
                return true;
            }
        }
        return false;
    }

    // ---- arrangements

    /** How many tiles of the hand SEVEN PAIRS can have at most. */
    private int heldByPairs() {
        int pairs = 0;
        int singles = 0;
        for (int kind = 0; kind < KINDS; kind++) {
            if (hand[kind] >= 2) {
                pairs++;
            } else if (hand[kind] == 1) {
                singles++;
            }
        }
        pairs = Math.min(pairs, 7);
        return 2 * pairs + Math.min(singles, 7 - pairs);
    }

    /** How many tiles of the hand ORPHANS can have at most. */
    private int heldByOrphans() {
        int kinds = 0;
        int twin = 0;
        for (int kind = 0; kind < KINDS; kind++) {
            if (isEnd(kind) || isHonour(kind)) {
                if (hand[kind] > 0) {
                    kinds++;
                }
                if (hand[kind] > 1) {
                    twin = 1;
                }
            }
        }
        return kinds + twin;
    }

    /** The most fans that the arrangement itself brings; NONE if the hand is not complete. */
    private int bestArrangement() {
        if (sizeNow() != FULL_SIZE) {
            return NONE;
        }
        int best = bestOfGroups();
        if (meldCount == 0 && heldByPairs() == FULL_SIZE) {
            best = Math.max(best, PAIRS_FANS);
        }
        if (meldCount == 0 && heldByOrphans() == FULL_SIZE) {
            best = Math.max(best, ORPHANS_FANS);
        }
        return best;
    }

    private int bestOfGroups() {
        int best = NONE;
        for (int kind = 0; kind < KINDS; kind++) {
            if (hand[kind] >= 2) {
                hand[kind] -= 2;
                best = Math.max(best, bestSplit(kind, 0, meldCount));
                hand[kind] += 2;
            }
        }
        return best;
    }

    /**
     * The most fans of all ways to split the tiles from a kind on into
     * groups; NONE if there is no way. Each splitWith.. fills one place of the
     * sets before it comes back here, so no more than five calls of this
     * stand open at once.
     */
    private int bestSplit(int pair, int from, int sets) {
        int kind = firstHeld(from);
        if (kind == KINDS) {
            return sets == SETS ? fansOfSets(pair) : NONE;
        }
        if (sets < 0 || sets >= SETS) {
            return NONE;
        }
        return Math.max(splitWithThree(pair, kind, sets), splitWithRow(pair, kind, sets));
    }

    private int splitWithThree(int pair, int kind, int sets) {
        if (hand[kind] < SET_SIZE) {
            return NONE;
        }
        setSorts[sets] = THREE;
        setKinds[sets] = kind;
        hand[kind] -= SET_SIZE;
        int best = bestSplit(pair, kind, sets + 1);
        hand[kind] += SET_SIZE;
        return best;
    }

    private int splitWithRow(int pair, int kind, int sets) {
        if (!beginsRow(kind) || hand[kind + 1] <= 0 || hand[kind + 2] <= 0) {
            return NONE;
        }
        setSorts[sets] = ROW;
        setKinds[sets] = kind;
        moveRow(kind, -1);
        int best = bestSplit(pair, kind, sets + 1);
        moveRow(kind, 1);
        return best;
    }

    private int firstHeld(int from) {
        for (int kind = from; kind < KINDS; kind++) {
            if (hand[kind] > 0) {
                return kind;
            }
        }
        return KINDS;
    }

    private void moveRow(int kind, int tiles) {
        hand[kind] += tiles;
        hand[kind + 1] += tiles;
        hand[kind + 2] += tiles;
    }

    // ---- fans

    private static void requireComplete(int fans) {
        if (fans == NONE) {
            throw new IllegalStateException("the hand is not complete");
        }
    }

    /** The sum of the fans; NONE if the hand is not complete. */
    private int fansNow(boolean isSelf) {
        int best = bestArrangement();
        if (best == NONE) {
            return NONE;
        }
        int fans = best + tileFans();
        if (isSelf) {
            fans++;
        }
        return hasOpenMeld() ? fans : fans + 1;
    }

    private int pointsFor(int fans) {
        return basePoints << Math.min(fans, fanLimit);
    }

    /** The fans for what tiles there are, however they are arranged. */
    private int tileFans() {
        boolean hasHonours = false;
        boolean hasEnds = false;
        int suits = 0;
        for (int kind = 0; kind < KINDS; kind++) {
            if (hand[kind] + laid[kind] > 0) {
                if (isHonour(kind)) {
                    hasHonours = true;
                } else {
                    suits |= 1 << kind / VALUES;
                    hasEnds = hasEnds || isEnd(kind);
                }
            }
        }
        int fans = hasHonours || hasEnds ? 0 : 1;
        if (suits == 0) {
            fans += 6;
        } else if (Integer.bitCount(suits) == 1) {
            fans += hasHonours ? 3 : 6;
        }
        return fans;
    }

    private int fansOfSets(int pair) {
        int fans = twinRows();
        int rows = 0;
        for (int set = 0; set < SETS; set++) {
            if (setSorts[set] == ROW) {
                rows++;
            } else {
                fans += honourFans(setKinds[set]);
            }
            if (setSorts[set] == FOUR) {
                fans++;
            }
        }
        if (rows == 0) {
            fans += 2;
        }
        if (rows == SETS && honourFans(pair) == 0) {
            fans++;
        }
        return fans;
    }

    private int honourFans(int kind) {
        int fans = kind >= FIRST_DRAGON ? 1 : 0;
        if (kind == seatWind) {
            fans++;
        }
        if (kind == roundWind) {
            fans++;
        }
        return fans;
    }

    /** Counts the ROWs that are in the hand's groups twice or more often, each at its second place. */
    private int twinRows() {
        int twins = 0;
        for (int set = meldCount; set < SETS; set++) {
            int before = 0;
            for (int other = meldCount; other < set; other++) {
                if (setSorts[other] == ROW && setKinds[other] == setKinds[set]) {
                    before++;
                }
            }
            if (setSorts[set] == ROW && before == 1) {
                twins++;
            }
        }
        return twins;
    }

    /**
     * Finds how many tiles of a hand the groups and the pair of one
     * arrangement can have at most.
     *
     * Only groups and pairs that have a tile of the hand are tried: the
     * others can always be put together of kinds that nothing else uses, for
     * four sets and a pair never use more than 13 of the 34 kinds. And no ROW
     * is tried more than twice, for three times the same ROW are the same
     * tiles as three THREEs.
     */
    private static final class Cover {
        private static final int MOST_ROWS = 2;
        private static final int LAST = MOST_ROWS + 1;
        private static final int PAIR = LAST * LAST;
        private static final int GROUP = 2 * PAIR;
        private static final int STATES = GROUP * (SETS + 1);

        // A state is a number with four digits: the groups begun, whether
        // there is a pair, and how many ROWs began at the last kind and at
        // the one before it. For each: the most tiles held so far, or NONE.
        private int[] now = new int[STATES];
        private int[] next = new int[STATES];
        private int groupLimit;
        private int room;
        private int held;

        int mostHeld(int[] hand, int[] laid, int groups) {
            groupLimit = Math.max(0, Math.min(groups, SETS));
            Arrays.fill(now, NONE);
            now[0] = 0;
            for (int kind = 0; kind < KINDS; kind++) {
                room = COPIES - laid[kind];
                held = hand[kind];
                layKind(canRow(hand, kind) ? MOST_ROWS : 0);
            }
            int most = 0;
            for (int state = 0; state < STATES; state++) {
                most = Math.max(most, now[state]);
            }
            return most;
        }

        private static boolean canRow(int[] hand, int kind) {
            return beginsRow(kind) && hand[kind] + hand[kind + 1] + hand[kind + 2] > 0;
        }

        private void layKind(int mostRows) {
            Arrays.fill(next, NONE);
            for (int state = 0; state < STATES; state++) {
                if (now[state] != NONE) {
                    for (int rows = 0; rows <= mostRows; rows++) {
                        laySets(state, rows);
                    }
                }
            }
            int[] done = now;
            now = next;
            next = done;
        }

        private void laySets(int state, int rows) {
            lay(state, rows, 0, 0);
            if (held > 0) {
                lay(state, rows, 1, 0);
                lay(state, rows, 0, 1);
            }
        }

        private void lay(int state, int rows, int pair, int three) {
            int older = state % LAST;
            int last = state % PAIR / LAST;
            int pairs = state % GROUP / PAIR + pair;
            int groups = state / GROUP + rows + three;
            int used = older + last + rows + 2 * pair + SET_SIZE * three;
            if (used <= room && pairs <= 1 && groups <= groupLimit) {
                int target = GROUP * groups + PAIR * pairs + LAST * rows + last;
                next[target] = Math.max(next[target], now[state] + Math.min(used, held));
            }
        }
    }
}
