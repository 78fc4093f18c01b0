/**
 * On each of some hands each call of the face is made with every argument at
 * an edge or near it: it throws exactly what the document says of this hand,
 * and when it throws, nothing has changed behind it.
 */
final class SweepTests extends HandTests {
    private static final String NOTHING = "nothing";
    private static final int[] FEW = {Integer.MIN_VALUE, -1, 0, 1, 2, 3, 4, 5, Integer.MAX_VALUE};
    private static final int[] WINDS = {Integer.MIN_VALUE, -1, 0, 26, 27, 28, 29, 30, 31, 34, Integer.MAX_VALUE};
    private static final int[] BASES = {Integer.MIN_VALUE, -1, 0, 1, 2, 99, 100, 101, Integer.MAX_VALUE};
    private static final int[] LIMITS = {Integer.MIN_VALUE, -1, 0, 1, 2, 12, 13, 14, Integer.MAX_VALUE};
    private final Calls making;
    private final String name;
    private final Facts facts;
    private final String untouched;

    private SweepTests(Check check, String name, Calls making) {
        super(check);
        this.name = name;
        this.making = making;
        this.facts = new Facts(handAfter(making));
        this.untouched = Witness.of(handAfter(making));
    }

    static void all(Check check) {
        sweep(check, "new", hand -> { });
        sweep(check, "one tile", hand -> hand.draw(0));
        sweep(check, "one tile of the last kind", hand -> hand.draw(33));
        sweep(check, "ROWs that may be laid", hand -> drawAll(hand, 0, 1, 2, 6, 7, 8, 9, 15, 16, 17, 24, 25, 26, 27));
        sweep(check, "fours", hand -> drawAll(hand, 0, 0, 0, 0, 8, 8, 8, 8, 33, 33, 33, 33));
        sweep(check, "full of tiles seen and held", SweepTests::seenAndHeld);
        sweep(check, "waits", hand -> drawAll(hand, ORPHANS));
        sweep(check, "complete", hand -> drawAll(hand, 0, 1, 2, 9, 9, 9, 24, 25, 26, 31, 31, 31, 5, 5));
        sweep(check, "a THREE that may grow", SweepTests::growing);
        sweep(check, "three melds", SweepTests::threeMelds);
        sweep(check, "four melds and no tiles", SweepTests::fourMelds);
        sweep(check, "four melds, complete", hand -> {
            fourMelds(hand);
            drawAll(hand, 33, 33);
        });
        sweep(check, "begun again", hand -> {
            fourMelds(hand);
            drawAll(hand, 33, 33);
            hand.begin();
            drawAll(hand, 33, 33, 33, 24, 25, 26);
        });
    }

    private static void seenAndHeld(TileHand hand) {
        drawAll(hand, 4, 4, 4, 5, 5, 6, 27, 27, 28, 29, 30, 31, 32, 33);
        hand.see(4);
        seeTimes(hand, 5, 2);
        seeTimes(hand, 6, 3);
        seeTimes(hand, 7, 4);
        hand.setWinds(30, 28);
    }

    private static void growing(TileHand hand) {
        lay(hand, 0, 3, true);
        lay(hand, 1, 4, false);
        lay(hand, 1, 26, true);
        lay(hand, 1, 33, false);
        drawAll(hand, 26, 33);
    }

    private static void threeMelds(TileHand hand) {
        lay(hand, 2, 0, false);
        lay(hand, 0, 18, true);
        lay(hand, 1, 27, false);
        drawAll(hand, 27, 18, 19, 20, 20);
        hand.setPoints(9, 3);
    }

    private static void fourMelds(TileHand hand) {
        lay(hand, 1, 0, true);
        lay(hand, 2, 8, false);
        lay(hand, 0, 24, true);
        lay(hand, 0, 24, false);
    }

    private static void sweep(Check check, String name, Calls making) {
        SweepTests tests = new SweepTests(check, name, making);
        for (int kind = -2; kind <= 36; kind++) {
            tests.ofKind(kind);
        }
        tests.ofKind(Integer.MIN_VALUE);
        tests.ofKind(Integer.MAX_VALUE);
        tests.meldAt();
        tests.settings();
        tests.questions();
    }

    private void swept(String call, String due, Calls made) {
        TileHand hand = handAfter(making);
        Object got = Check.outcome(() -> {
            made.on(hand);
            return NOTHING;
        });
        check.same(name + ": " + call, got, due);
        if (!due.equals(NOTHING)) {
            check.same(name + ": " + call + ": nothing has changed", Witness.of(hand), untouched);
        }
    }

    /** The exception if the condition holds, and otherwise what comes behind it: the one named first goes first. */
    private static String thrown(boolean holds, Class<? extends RuntimeException> exception, String otherwise) {
        return holds ? "throws." + exception.getSimpleName() : otherwise;
    }

    private static boolean isKind(int kind) {
        return kind >= 0 && kind <= 33;
    }

    private void ofKind(int kind) {
        boolean isNone = !isKind(kind);
        int held = isNone ? 0 : facts.held[kind];
        int left = isNone ? 0 : facts.left[kind];
        String always = thrown(isNone, INDEX, NOTHING);
        String draws = thrown(isNone, INDEX, thrown(facts.size == 14 || left == 0, STATE, NOTHING));
        String grows = thrown(isNone, INDEX, thrown(!facts.hasThree(kind) || held == 0, STATE, NOTHING));
        swept("draw(" + kind + ")", draws, hand -> hand.draw(kind));
        swept("drop(" + kind + ")", thrown(isNone, INDEX, thrown(held == 0, STATE, NOTHING)), hand -> hand.drop(kind));
        swept("see(" + kind + ")", thrown(isNone, INDEX, thrown(left == 0, STATE, NOTHING)), hand -> hand.see(kind));
        swept("grow(" + kind + ")", grows, hand -> hand.grow(kind));
        swept("count(" + kind + ", false)", always, hand -> hand.count(kind, false));
        swept("count(" + kind + ", true)", always, hand -> hand.count(kind, true));
        for (int sort : FEW) {
            boolean isBad = sort < 0 || sort > 2 || sort == 0 && (kind > 26 || kind % 9 > 6);
            boolean lacks = !isNone && !isBad && (facts.melds == 4 || !facts.hasFor(sort, kind));
            String due = thrown(isNone, INDEX, thrown(isBad, ARGUMENT, thrown(lacks, STATE, NOTHING)));
            swept("meld(" + sort + ", " + kind + ", true)", due, hand -> hand.meld(sort, kind, true));
            swept("meld(" + sort + ", " + kind + ", false)", due, hand -> hand.meld(sort, kind, false));
        }
    }

    private void meldAt() {
        for (int meld : FEW) {
            for (int what : FEW) {
                boolean isBad = meld < 0 || meld >= facts.melds || what < 0 || what > 2;
                swept("meldAt(" + meld + ", " + what + ")", thrown(isBad, INDEX, NOTHING),
                        hand -> hand.meldAt(meld, what));
            }
        }
    }

    private void settings() {
        for (int seat : WINDS) {
            for (int round : WINDS) {
                boolean isBad = seat < 27 || seat > 30 || round < 27 || round > 30;
                swept("setWinds(" + seat + ", " + round + ")", thrown(isBad, ARGUMENT, NOTHING),
                        hand -> hand.setWinds(seat, round));
            }
        }
        for (int base : BASES) {
            for (int limit : LIMITS) {
                boolean isBad = base < 1 || base > 100 || limit < 1 || limit > 13;
                swept("setPoints(" + base + ", " + limit + ")", thrown(isBad, ARGUMENT, NOTHING),
                        hand -> hand.setPoints(base, limit));
            }
        }
    }

    private void questions() {
        String scores = thrown(!facts.isComplete, STATE, NOTHING);
        swept("advice()", thrown(facts.size == 3 * facts.melds, STATE, NOTHING), hand -> hand.advice());
        swept("fans(false)", scores, hand -> hand.fans(false));
        swept("fans(true)", scores, hand -> hand.fans(true));
        swept("points(false)", scores, hand -> hand.points(false));
        swept("points(true)", scores, hand -> hand.points(true));
        swept("size()", NOTHING, hand -> hand.size());
        swept("melds()", NOTHING, hand -> hand.melds());
        swept("isComplete()", NOTHING, hand -> hand.isComplete());
        swept("waits()", NOTHING, hand -> hand.waits());
        swept("outs()", NOTHING, hand -> hand.outs());
        swept("missing()", NOTHING, hand -> hand.missing());
        swept("meanPoints(false)", NOTHING, hand -> hand.meanPoints(false));
        swept("meanPoints(true)", NOTHING, hand -> hand.meanPoints(true));
        swept("digest()", NOTHING, hand -> hand.digest());
        swept("begin()", NOTHING, hand -> hand.begin());
        questionsChangeNothing();
    }

    /** Each question is asked twice; only what sets, draws, drops, sees, lays, grows, or begins changes a hand. */
    private void questionsChangeNothing() {
        TileHand hand = handAfter(making);
        for (int i = 0; i < 2; i++) {
            Check.outcome(() -> hand.isComplete());
            Check.outcome(() -> hand.waits());
            Check.outcome(() -> hand.outs());
            Check.outcome(() -> hand.missing());
            Check.outcome(() -> hand.advice());
            Check.outcome(() -> hand.fans(true));
            Check.outcome(() -> hand.points(true));
            Check.outcome(() -> hand.meanPoints(true));
            Check.outcome(() -> hand.digest());
        }
        check.same(name + ": questions change nothing", Witness.of(hand), untouched);
    }

    /** What is known of a hand, asked once. */
    private static final class Facts {
        private final int[] held = new int[34];
        private final int[] left = new int[34];
        private final boolean[] hasThree = new boolean[34];
        private final int size;
        private final int melds;
        private final boolean isComplete;

        Facts(TileHand hand) {
            size = hand.size();
            melds = hand.melds();
            isComplete = hand.isComplete();
            for (int kind = 0; kind < 34; kind++) {
                held[kind] = hand.count(kind, false);
                left[kind] = 4 - held[kind] - hand.count(kind, true);
            }
            for (int meld = 0; meld < melds; meld++) {
                takeMeld(hand.meldAt(meld, 0), hand.meldAt(meld, 1));
            }
        }

        private void takeMeld(int sort, int kind) {
            if (sort == 0) {
                left[kind]--;
                left[kind + 1]--;
                left[kind + 2]--;
            } else {
                left[kind] -= sort + 2;
                hasThree[kind] = sort == 1;
            }
        }

        boolean hasThree(int kind) {
            return isKind(kind) && hasThree[kind];
        }

        boolean hasFor(int sort, int kind) {
            if (sort == 0) {
                return held[kind] > 0 && held[kind + 1] > 0 && held[kind + 2] > 0;
            }
            return held[kind] >= sort + 2;
        }
    }
}
