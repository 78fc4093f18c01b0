import java.util.Random;

/** Long runs of calls on TileHand and on PlainHand: both must answer, and refuse, alike. */
final class RunTests {
    private static final int CALLS = 512;
    private final Check check;
    private final Random random;
    private TileHand hand;
    private PlainHand plain;
    private String told;
    private int calls;

    RunTests(Check check, long seed) {
        this.check = check;
        this.random = new Random(seed);
    }

    /**
     * Calls of all sorts, wrong ones too; the slow ones are rare while
     * PlainHand is slow in them. One step makes two calls at most, and the
     * digest is the last of the 512 that an object is used for.
     */
    void mixedRun() {
        startOver();
        for (int i = 0; i < CALLS && calls < CALLS - 2; i++) {
            mixedCall();
        }
        both("digest()", () -> hand.digest(), () -> plain.digest());
    }

    private void startOver() {
        hand = new TileHand();
        plain = new PlainHand();
        told = "";
        calls = 0;
    }

    /** What is tried at random must leave some of the 512 calls for what is asked of the hand then. */
    private boolean mayTry(int tries, int mostCalls) {
        return tries < 400 && calls < mostCalls;
    }

    private void both(String call, Check.Call mine, Check.Call due) {
        calls++;
        Object want = Check.outcome(due);
        int before = check.failures();
        check.same(call, Check.outcome(mine), want);
        if (check.failures() > before) {
            System.out.println("  behind" + told);
        }
        told = told + " " + call + "=" + want;
    }

    /** Few kinds, so that groups come about; now and then one that there is not. */
    private int anyKind() {
        int n = random.nextInt(40);
        if (n == 0) {
            return random.nextBoolean() ? -1 : 34;
        }
        if (n == 1) {
            return random.nextBoolean() ? Integer.MAX_VALUE : Integer.MIN_VALUE;
        }
        return n < 6 ? random.nextInt(34) : n < 12 ? 27 + random.nextInt(7) : random.nextInt(10);
    }

    private void mixedCall() {
        int kind = anyKind();
        int n = random.nextInt(100);
        boolean flag = random.nextBoolean();
        if (n < 35) {
            both("draw(" + kind + ")", () -> hand.draw(kind), () -> plain.draw(kind));
        } else if (n < 47) {
            both("drop(" + kind + ")", () -> hand.drop(kind), () -> plain.drop(kind));
        } else if (n < 51) {
            both("see(" + kind + ")", () -> hand.see(kind), () -> plain.see(kind));
        } else if (n < 60) {
            int sort = random.nextInt(5) - 1;
            both("meld(" + sort + ", " + kind + ", " + flag + ")",
                    () -> hand.meld(sort, kind, flag), () -> plain.meld(sort, kind, flag));
        } else if (n < 66) {
            both("grow(" + kind + ")", () -> hand.grow(kind), () -> plain.grow(kind));
        } else {
            mixedQuestion(n, kind, flag);
        }
    }

    private void mixedQuestion(int n, int kind, boolean flag) {
        int a = random.nextInt(7) - 1;
        int b = random.nextInt(5) - 1;
        switch (n) {
            case 66 -> {
                if (random.nextInt(4) == 0) {
                    both("begin()", () -> hand.begin(), () -> plain.begin());
                }
            }
            case 67, 68, 69 -> both("size()", () -> hand.size(), () -> plain.size());
            case 70, 71, 72 ->
                both("count(" + kind + ", " + flag + ")", () -> hand.count(kind, flag), () -> plain.count(kind, flag));
            case 73, 74 -> both("melds()", () -> hand.melds(), () -> plain.melds());
            case 75, 76, 77 ->
                both("meldAt(" + a + ", " + b + ")", () -> hand.meldAt(a, b), () -> plain.meldAt(a, b));
            case 78, 79 -> both("isComplete()", () -> hand.isComplete(), () -> plain.isComplete());
            case 80, 81 -> both("waits()", () -> hand.waits(), () -> plain.waits());
            case 82, 83 -> both("outs()", () -> hand.outs(), () -> plain.outs());
            case 84, 85 -> slowQuestions(flag);
            case 86, 87 -> {
                int seat = 26 + random.nextInt(6);
                int round = 26 + random.nextInt(6);
                both("setWinds(" + seat + ", " + round + ")",
                        () -> hand.setWinds(seat, round), () -> plain.setWinds(seat, round));
            }
            case 88, 89 -> {
                int base = random.nextInt(102);
                int limit = random.nextInt(15);
                both("setPoints(" + base + ", " + limit + ")",
                        () -> hand.setPoints(base, limit), () -> plain.setPoints(base, limit));
            }
            case 90, 91, 92 -> both("fans(" + flag + ")", () -> hand.fans(flag), () -> plain.fans(flag));
            case 93, 94, 95 -> both("points(" + flag + ")", () -> hand.points(flag), () -> plain.points(flag));
            default ->
                both("meanPoints(" + flag + ")", () -> hand.meanPoints(flag), () -> plain.meanPoints(flag));
        }
    }

    private void slowQuestions(boolean isAdvice) {
        if (plain.melds.isEmpty() && random.nextInt(5) > 0) {
            return;
        }
        if (!isAdvice) {
            both("missing()", () -> hand.missing(), () -> plain.missing());
            both("digest()", () -> hand.digest(), () -> plain.digest());
        } else if (!plain.melds.isEmpty() || random.nextInt(20) == 0) {
            both("advice()", () -> hand.advice(), () -> plain.advice());
        }
    }

    /** A complete hand of groups that lie close together, some of them melded, is scored; then each tile is waited for. */
    void completeHand() {
        startOver();
        int suit = 9 * random.nextInt(3);
        int span = 1 + random.nextInt(7);
        int start = random.nextInt(8 - span);
        both("setWinds", () -> hand.setWinds(27 + suit / 9, 30), () -> plain.setWinds(27 + suit / 9, 30));
        int limit = 1 + random.nextInt(13);
        both("setPoints", () -> hand.setPoints(7, limit), () -> plain.setPoints(7, limit));
        int melds = random.nextInt(5);
        int honours = random.nextInt(5) == 0 ? 3 : random.nextInt(20) == 0 ? 10 : 0;
        for (int tries = 0; plain.size() < 12 && mayTry(tries, 300); tries++) {
            drawGroup(melds, suit + start, span, honours);
        }
        for (int tries = 0; plain.size() < 14 && mayTry(tries, 400); tries++) {
            int kind = random.nextInt(4) == 0 ? random.nextInt(34) : suit + random.nextInt(9);
            if (plain.hand[kind] == 0 && plain.size() == 12) {
                draw(kind, 2);
            }
        }
        scoreBoth();
        for (int kind = 0; kind < 34; kind++) {
            if (plain.hand[kind] > 0) {
                int dropped = kind;
                both("drop(" + kind + ")", () -> hand.drop(dropped), () -> plain.drop(dropped));
                waitBoth();
                return;
            }
        }
    }

    private void drawGroup(int melds, int start, int span, int honours) {
        boolean isRow = random.nextInt(3) > 0;
        boolean isHonour = random.nextInt(10) < honours;
        int kind = isHonour ? 27 + random.nextInt(7) : start + random.nextInt(span);
        boolean isOpen = random.nextInt(4) == 0;
        PlainHand p = plain;
        if (isRow && !isHonour) {
            if (p.hand[kind] < 4 && p.hand[kind + 1] < 4 && p.hand[kind + 2] < 4) {
                draw(kind, 1);
                draw(kind + 1, 1);
                draw(kind + 2, 1);
                if (p.melds.size() < melds) {
                    both("meld(0, " + kind + ")", () -> hand.meld(0, kind, isOpen), () -> p.meld(0, kind, isOpen));
                }
            }
        } else if (p.hand[kind] <= 1) {
            draw(kind, 3);
            if (p.melds.size() < melds) {
                both("meld(1, " + kind + ")", () -> hand.meld(1, kind, isOpen), () -> p.meld(1, kind, isOpen));
                if (random.nextBoolean() && p.size() < 14) {
                    draw(kind, 1);
                    both("grow(" + kind + ")", () -> hand.grow(kind), () -> p.grow(kind));
                }
            }
        }
    }

    private void draw(int kind, int tiles) {
        for (int i = 0; i < tiles; i++) {
            both("draw(" + kind + ")", () -> hand.draw(kind), () -> plain.draw(kind));
        }
    }

    private void scoreBoth() {
        both("isComplete()", () -> hand.isComplete(), () -> plain.isComplete());
        both("fans(true)", () -> hand.fans(true), () -> plain.fans(true));
        both("fans(false)", () -> hand.fans(false), () -> plain.fans(false));
        both("points(false)", () -> hand.points(false), () -> plain.points(false));
    }

    private void waitBoth() {
        both("waits()", () -> hand.waits(), () -> plain.waits());
        both("outs()", () -> hand.outs(), () -> plain.outs());
        both("meanPoints(false)", () -> hand.meanPoints(false), () -> plain.meanPoints(false));
        both("meanPoints(true)", () -> hand.meanPoints(true), () -> plain.meanPoints(true));
    }

    /** Some tiles, close together or apart, behind some melds: how many are missing, and what should be dropped. */
    void missingTiles(int melds) {
        startOver();
        int width = 5 + random.nextInt(30);
        for (int tries = 0; plain.melds.size() < melds && mayTry(tries, 300); tries++) {
            drawGroup(melds, random.nextInt(3) * 9, 1 + random.nextInt(7), 2);
        }
        int want = random.nextInt(5) == 0 ? random.nextInt(15) : 13 + random.nextInt(2);
        for (int tries = 0; plain.size() < want && mayTry(tries, 400); tries++) {
            int kind = random.nextInt(Math.min(width, 34));
            both("draw(" + kind + ")", () -> hand.draw(kind), () -> plain.draw(kind));
        }
        both("missing()", () -> hand.missing(), () -> plain.missing());
        if (melds > 0) {
            both("advice()", () -> hand.advice(), () -> plain.advice());
        }
    }

    static void all(Check check) {
        RunTests runs = new RunTests(check, 20261119L);
        for (int i = 0; i < 60; i++) {
            runs.mixedRun();
        }
        for (int i = 0; i < 1500; i++) {
            runs.completeHand();
        }
        for (int i = 0; i < 400; i++) {
            runs.missingTiles(i % 4 + 1);
        }
        for (int i = 0; i < 60; i++) {
            runs.missingTiles(0);
        }
    }
}
