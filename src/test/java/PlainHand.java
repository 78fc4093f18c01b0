import java.util.ArrayList;
import java.util.List;

/**
 * The document's words in their plainest and slowest form, written apart from
 * TileHand: arrangements are tried one by one. The tests compare the two.
 */
final class PlainHand {
    /** All groups there are: a sort (0 ROW, 1 THREE), and its kinds. */
    private static final int[][] GROUPS = allGroups();

    final int[] hand = new int[34];
    final int[] seen = new int[34];
    final List<int[]> melds = new ArrayList<>();
    int seat = 27;
    int round = 27;
    int base = 1;
    int limit = 8;

    private static int[][] allGroups() {
        List<int[]> groups = new ArrayList<>();
        for (int suit = 0; suit < 27; suit += 9) {
            for (int value = 0; value + 2 < 9; value++) {
                int first = suit + value;
                groups.add(new int[] {0, first, first + 1, first + 2});
            }
        }
        for (int kind = 0; kind < 34; kind++) {
            groups.add(new int[] {1, kind, kind, kind});
        }
        return groups.toArray(new int[0][]);
    }

    private static int[] meldTiles(int[] meld) {
        int kind = meld[1];
        if (meld[0] == 0) {
            return new int[] {kind, kind + 1, kind + 2};
        }
        return meld[0] == 1 ? new int[] {kind, kind, kind} : new int[] {kind, kind, kind, kind};
    }

    private int[] inMelds() {
        int[] counts = new int[34];
        for (int[] meld : melds) {
            for (int kind : meldTiles(meld)) {
                counts[kind]++;
            }
        }
        return counts;
    }

    private int left(int kind) {
        return 4 - hand[kind] - seen[kind] - inMelds()[kind];
    }

    private int tiles() {
        int sum = 0;
        for (int n : hand) {
            sum += n;
        }
        return sum;
    }

    private static void needKind(int kind) {
        if (kind < 0 || kind > 33) {
            throw new IndexOutOfBoundsException();
        }
    }

    private static void needState(boolean holds) {
        if (!holds) {
            throw new IllegalStateException();
        }
    }

    private static void needArgument(boolean holds) {
        if (!holds) {
            throw new IllegalArgumentException();
        }
    }

    int draw(int kind) {
        needKind(kind);
        needState(size() != 14 && left(kind) > 0);
        hand[kind]++;
        return size();
    }

    int drop(int kind) {
        needKind(kind);
        needState(hand[kind] > 0);
        hand[kind]--;
        seen[kind]++;
        return size();
    }

    int see(int kind) {
        needKind(kind);
        needState(left(kind) > 0);
        seen[kind]++;
        return left(kind);
    }

    int meld(int sort, int kind, boolean isOpen) {
        needKind(kind);
        needArgument(sort >= 0 && sort <= 2);
        needArgument(sort != 0 || kind < 27 && kind / 9 == (kind + 2) / 9);
        int[] meld = {sort, kind, isOpen ? 1 : 0};
        int[] after = hand.clone();
        for (int tile : meldTiles(meld)) {
            needState(--after[tile] >= 0);
        }
        needState(melds.size() < 4);
        System.arraycopy(after, 0, hand, 0, 34);
        melds.add(meld);
        return size();
    }

    int grow(int kind) {
        needKind(kind);
        for (int[] meld : melds) {
            if (meld[0] == 1 && meld[1] == kind && hand[kind] > 0) {
                meld[0] = 2;
                hand[kind]--;
                return size();
            }
        }
        throw new IllegalStateException();
    }

    int begin() {
        int before = size();
        java.util.Arrays.fill(hand, 0);
        java.util.Arrays.fill(seen, 0);
        melds.clear();
        return before;
    }

    int size() {
        return tiles() + 3 * melds.size();
    }

    int count(int kind, boolean isSeen) {
        needKind(kind);
        return (isSeen ? seen : hand)[kind];
    }

    int melds() {
        return melds.size();
    }

    int meldAt(int meld, int what) {
        if (meld < 0 || meld >= melds.size() || what < 0 || what > 2) {
            throw new IndexOutOfBoundsException();
        }
        return melds.get(meld)[what];
    }

    boolean isComplete() {
        return size() == 14 && !arrangements().isEmpty();
    }

    long waits() {
        long set = 0;
        for (int kind = 0; kind < 34 && size() == 13; kind++) {
            if (hand[kind] + inMelds()[kind] < 4) {
                hand[kind]++;
                if (isComplete()) {
                    set += 1L << kind;
                }
                hand[kind]--;
            }
        }
        return set;
    }

    int outs() {
        int tiles = 0;
        for (int kind = 0; kind < 34; kind++) {
            tiles += (waits() >> kind & 1) == 1 ? left(kind) : 0;
        }
        return tiles;
    }

    int missing() {
        int least = 14 - 3 * melds.size() - mostHeld(0, 4 - melds.size(), new int[34], inMelds());
        if (melds.isEmpty()) {
            least = Math.min(least, Math.min(missingOfPairs(), missingOfOrphans()));
        }
        return least;
    }

    /** Over all ways to add some groups, numbered from one on, and a pair: the most tiles of the hand in them. */
    private int mostHeld(int from, int groups, int[] used, int[] laid) {
        int most = -1;
        if (groups == 0) {
            int held = 0;
            for (int kind = 0; kind < 34; kind++) {
                held += Math.min(used[kind], hand[kind]);
            }
            for (int kind = 0; kind < 34; kind++) {
                if (used[kind] + laid[kind] + 2 <= 4) {
                    int more = Math.min(used[kind] + 2, hand[kind]) - Math.min(used[kind], hand[kind]);
                    most = Math.max(most, held + more);
                }
            }
            return most;
        }
        for (int g = from; g < GROUPS.length; g++) {
            int[] group = GROUPS[g];
            used[group[1]]++;
            used[group[2]]++;
            used[group[3]]++;
            boolean fits = true;
            for (int i = 1; i <= 3; i++) {
                fits &= used[group[i]] + laid[group[i]] <= 4;
            }
            if (fits) {
                most = Math.max(most, mostHeld(g, groups - 1, used, laid));
            }
            used[group[1]]--;
            used[group[2]]--;
            used[group[3]]--;
        }
        return most;
    }

    private int missingOfPairs() {
        List<Integer> held = new ArrayList<>();
        for (int n : hand) {
            held.add(Math.min(n, 2));
        }
        held.sort((a, b) -> b - a);
        int missing = 14;
        for (int i = 0; i < 7; i++) {
            missing -= held.get(i);
        }
        return missing;
    }

    private static boolean isOrphan(int kind) {
        return kind >= 27 || kind % 9 == 0 || kind % 9 == 8;
    }

    private int missingOfOrphans() {
        int least = 14;
        for (int twin = 0; twin < 34; twin++) {
            if (isOrphan(twin)) {
                int missing = 0;
                for (int kind = 0; kind < 34; kind++) {
                    int wanted = !isOrphan(kind) ? 0 : kind == twin ? 2 : 1;
                    missing += Math.max(0, wanted - hand[kind]);
                }
                least = Math.min(least, missing);
            }
        }
        return least;
    }

    int advice() {
        needState(tiles() > 0);
        int best = -1;
        int least = 99;
        for (int kind = 0; kind < 34; kind++) {
            if (hand[kind] > 0) {
                hand[kind]--;
                int missing = missing();
                hand[kind]++;
                if (missing < least) {
                    least = missing;
                    best = kind;
                }
            }
        }
        return best;
    }

    int setWinds(int newSeat, int newRound) {
        needArgument(newSeat >= 27 && newSeat <= 30);
        needArgument(newRound >= 27 && newRound <= 30);
        int before = seat;
        seat = newSeat;
        round = newRound;
        return before;
    }

    int setPoints(int newBase, int newLimit) {
        needArgument(newBase >= 1 && newBase <= 100);
        needArgument(newLimit >= 1 && newLimit <= 13);
        int before = limit;
        base = newBase;
        limit = newLimit;
        return before;
    }

    /** Each as {pair, group, group ..}, the groups as numbers in GROUPS; {-1} SEVEN PAIRS, {-2} ORPHANS. */
    private List<int[]> arrangements() {
        List<int[]> found = new ArrayList<>();
        for (int pair = 0; pair < 34; pair++) {
            if (hand[pair] >= 2) {
                int[] rest = hand.clone();
                rest[pair] -= 2;
                int[] arrangement = new int[5 - melds.size()];
                arrangement[0] = pair;
                addSplits(found, rest, 0, arrangement, 1);
            }
        }
        if (melds.isEmpty() && missingOfPairs() == 0) {
            found.add(new int[] {-1});
        }
        if (melds.isEmpty() && missingOfOrphans() == 0) {
            found.add(new int[] {-2});
        }
        return found;
    }

    private void addSplits(List<int[]> found, int[] rest, int from, int[] arrangement, int place) {
        if (place == arrangement.length) {
            for (int n : rest) {
                if (n != 0) {
                    return;
                }
            }
            found.add(arrangement.clone());
            return;
        }
        for (int g = from; g < GROUPS.length; g++) {
            int[] after = rest.clone();
            boolean fits = true;
            for (int i = 1; i <= 3; i++) {
                fits &= --after[GROUPS[g][i]] >= 0;
            }
            if (fits) {
                arrangement[place] = g;
                addSplits(found, after, g, arrangement, place + 1);
            }
        }
    }

    int fans(boolean isSelf) {
        needState(isComplete());
        int most = -1;
        for (int[] arrangement : arrangements()) {
            most = Math.max(most, fansOf(arrangement));
        }
        return most + commonFans() + (isSelf ? 1 : 0);
    }

    private int commonFans() {
        List<Integer> all = new ArrayList<>();
        boolean isOpen = false;
        for (int kind = 0; kind < 34; kind++) {
            for (int i = 0; i < hand[kind]; i++) {
                all.add(kind);
            }
        }
        for (int[] meld : melds) {
            isOpen |= meld[2] == 1;
            for (int kind : meldTiles(meld)) {
                all.add(kind);
            }
        }
        int fans = isOpen ? 0 : 1;
        if (all.stream().noneMatch(PlainHand::isOrphan)) {
            fans += 1;
        }
        boolean hasHonours = all.stream().anyMatch(k -> k >= 27);
        long suits = all.stream().filter(k -> k < 27).map(k -> k / 9).distinct().count();
        if (suits == 0) {
            fans += 6;
        }
        if (suits == 1) {
            fans += hasHonours ? 3 : 6;
        }
        return fans;
    }

    private int fansOf(int[] arrangement) {
        if (arrangement[0] < 0) {
            return arrangement[0] == -1 ? 2 : 13;
        }
        List<int[]> sets = new ArrayList<>(melds);
        int[] sameRows = new int[34];
        for (int i = 1; i < arrangement.length; i++) {
            int[] group = GROUPS[arrangement[i]];
            sets.add(group);
            if (group[0] == 0) {
                sameRows[group[1]]++;
            }
        }
        int fans = 0;
        for (int rows : sameRows) {
            fans += rows >= 2 ? 1 : 0;
        }
        int pair = arrangement[0];
        boolean isPlainPair = pair < 31 && pair != seat && pair != round;
        if (sets.stream().allMatch(s -> s[0] == 0) && isPlainPair) {
            fans += 1;
        }
        if (sets.stream().noneMatch(s -> s[0] == 0)) {
            fans += 2;
        }
        for (int[] set : sets) {
            if (set[0] != 0) {
                fans += (set[1] >= 31 ? 1 : 0) + (set[1] == seat ? 1 : 0) + (set[1] == round ? 1 : 0);
            }
            fans += set[0] == 2 ? 1 : 0;
        }
        return fans;
    }

    int points(boolean isSelf) {
        int points = base;
        int fans = fans(isSelf);
        for (int i = 0; i < fans && i < limit; i++) {
            points *= 2;
        }
        return points;
    }

    double meanPoints(boolean isSelf) {
        double sum = 0;
        int tiles = 0;
        for (int kind = 0; kind < 34; kind++) {
            if ((waits() >> kind & 1) == 1) {
                int left = left(kind);
                hand[kind]++;
                for (int i = 0; i < left; i++) {
                    sum += points(isSelf);
                    tiles++;
                }
                hand[kind]--;
            }
        }
        return tiles == 0 ? 0 : sum / tiles;
    }

    long digest() {
        List<Long> numbers = new ArrayList<>();
        for (int kind = 0; kind < 34; kind++) {
            numbers.add((long) hand[kind]);
            numbers.add((long) seen[kind]);
        }
        numbers.add((long) melds.size());
        for (int[] meld : melds) {
            for (int x : meld) {
                numbers.add((long) x);
            }
        }
        numbers.addAll(List.of((long) seat, (long) round, (long) base, (long) limit, waits(), (long) missing()));
        long d = 271;
        for (long x : numbers) {
            d = d * 31 + x;
        }
        return d;
    }
}
