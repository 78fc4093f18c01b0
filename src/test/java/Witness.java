/**
 * All that can be seen of a hand from outside, as one text. The hand is worn
 * out by it; with some 240 calls it stays far below the 512 of an object.
 */
final class Witness {
    private final TileHand hand;
    private final StringBuilder told = new StringBuilder();

    private Witness(TileHand hand) {
        this.hand = hand;
    }

    static String of(TileHand hand) {
        Witness witness = new Witness(hand);
        witness.tellTiles();
        witness.tellWorth();
        witness.tellScore();
        witness.wearOut();
        return witness.told.toString();
    }

    private void tell(String what, Check.Call call) {
        told.append(what).append(' ').append(Check.outcome(call)).append("; ");
    }

    private void tellTiles() {
        tell("size", () -> hand.size());
        for (int k = 0; k < 34; k++) {
            int kind = k;
            tell("in hand " + kind, () -> hand.count(kind, false));
            tell("seen " + kind, () -> hand.count(kind, true));
        }
        tell("melds", () -> hand.melds());
        for (int m = 0; m < hand.melds(); m++) {
            int meld = m;
            tell("sort", () -> hand.meldAt(meld, 0));
            tell("kind", () -> hand.meldAt(meld, 1));
            tell("open", () -> hand.meldAt(meld, 2));
        }
    }

    private void tellWorth() {
        tell("complete", () -> hand.isComplete());
        tell("waits", () -> hand.waits());
        tell("outs", () -> hand.outs());
        tell("missing", () -> hand.missing());
        tell("advice", () -> hand.advice());
    }

    private void tellScore() {
        tell("fans", () -> hand.fans(false));
        tell("points", () -> hand.points(false));
        tell("mean", () -> hand.meanPoints(false));
        tell("SELF's mean", () -> hand.meanPoints(true));
        tell("digest", () -> hand.digest());
    }

    /** What is left of each kind, and the settings, are told only by calls that change them. */
    private void wearOut() {
        for (int k = 0; k < 34; k++) {
            int kind = k;
            for (int i = 0; i < 4; i++) {
                tell("left of " + kind, () -> hand.see(kind));
            }
        }
        tell("seat's wind", () -> hand.setWinds(28, 28));
        tell("limit", () -> hand.setPoints(1, 1));
        tell("size before", () -> hand.begin());
        tell("new digest", () -> hand.digest());
    }
}
