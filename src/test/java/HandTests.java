/** What the tests of single promises and sentences share. */
abstract class HandTests {
    static final Class<IndexOutOfBoundsException> INDEX = IndexOutOfBoundsException.class;
    static final Class<IllegalArgumentException> ARGUMENT = IllegalArgumentException.class;
    static final Class<IllegalStateException> STATE = IllegalStateException.class;
    static final int[] NO_KINDS = {-1, 34, 35, Integer.MIN_VALUE, Integer.MAX_VALUE};
    static final int[] ORPHANS = {0, 8, 9, 17, 18, 26, 27, 28, 29, 30, 31, 32, 33};
    static final int[] SUITS = {0, 9, 18};
    final Check check;

    HandTests(Check check) {
        this.check = check;
    }

    /** Calls on a hand, whose answers do not matter. */
    interface Calls {
        void on(TileHand hand);
    }

    static TileHand handAfter(Calls calls) {
        TileHand hand = new TileHand();
        calls.on(hand);
        return hand;
    }

    static TileHand holding(int... kinds) {
        return handAfter(hand -> drawAll(hand, kinds));
    }

    static void drawAll(TileHand hand, int... kinds) {
        for (int kind : kinds) {
            hand.draw(kind);
        }
    }

    static void seeTimes(TileHand hand, int kind, int times) {
        for (int i = 0; i < times; i++) {
            hand.see(kind);
        }
    }

    /** Draws what a meld needs, and lays it. */
    static void lay(TileHand hand, int sort, int kind, boolean isOpen) {
        int second = sort == 0 ? kind + 1 : kind;
        int third = sort == 0 ? kind + 2 : kind;
        drawAll(hand, kind, second, third);
        if (sort == 2) {
            hand.draw(kind);
        }
        hand.meld(sort, kind, isOpen);
    }

    static long set(int... kinds) {
        long set = 0;
        for (int kind : kinds) {
            set += 1L << kind;
        }
        return set;
    }

    static boolean isEndOrHonour(int kind) {
        for (int orphan : ORPHANS) {
            if (orphan == kind) {
                return true;
            }
        }
        return false;
    }
}
