/** What README.md shows of the use of the class, call by call, with the answers that it tells. */
final class ReadmeTests extends HandTests {
    ReadmeTests(Check check) {
        super(check);
    }

    static void all(Check check) {
        ReadmeTests tests = new ReadmeTests(check);
        tests.closedHand();
        tests.handWithMelds();
        tests.refusedCalls();
    }

    private void closedHand() {
        TileHand hand = new TileHand();
        for (int kind : new int[] {0, 1, 2, 3, 4, 5, 12, 13, 14, 10, 10, 31, 31}) {
            hand.draw(kind);
        }
        check.same("README: size", hand.size(), 13);
        check.same("README: missing", hand.missing(), 1);
        check.same("README: waits", hand.waits(), (1L << 10) + (1L << 31));
        check.same("README: outs", hand.outs(), 4);
        check.same("README: meanPoints", hand.meanPoints(false), 3.0);
        check.same("README: draw", hand.draw(31), 14);
        check.same("README: isComplete", hand.isComplete(), true);
        check.same("README: fans", hand.fans(true), 3);
        check.same("README: points", hand.points(true), 8);
    }

    private void handWithMelds() {
        TileHand hand = new TileHand();
        hand.setWinds(28, 27);
        hand.setPoints(10, 5);
        for (int kind : new int[] {28, 28, 28, 28, 3, 4, 5, 20, 20, 9, 33}) {
            hand.draw(kind);
        }
        check.same("README: see", hand.see(20), 1);
        check.same("README: a THREE", hand.meld(1, 28, true), 11);
        check.same("README: a ROW", hand.meld(0, 3, false), 11);
        check.same("README: grow", hand.grow(28), 10);
        check.same("README: melds", hand.melds(), 2);
        check.same("README: its sort", hand.meldAt(0, 0), 2);
        check.same("README: its kind", hand.meldAt(0, 1), 28);
        check.same("README: it is open", hand.meldAt(0, 2), 1);
        check.same("README: advice", hand.advice(), 9);
        check.same("README: drop", hand.drop(9), 9);
        check.same("README: seen", hand.count(9, true), 1);
        check.same("README: in the hand", hand.count(20, false), 2);
        check.same("README: begin", hand.begin(), 9);
        check.same("README: empty", hand.size(), 0);
    }

    private void refusedCalls() {
        TileHand hand = new TileHand();
        check.refused("README: no such kind", INDEX, () -> hand.draw(34));
        check.refused("README: no such ROW", ARGUMENT, () -> hand.meld(0, 7, true));
        check.refused("README: not complete", STATE, () -> hand.fans(true));
        check.same("README: nothing has changed", hand.digest(), new TileHand().digest());
    }
}
