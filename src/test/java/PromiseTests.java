/**
 * Promise by promise: ordinary inputs, the edges that the document names, and
 * wrong inputs; the answers that are due were worked out by hand.
 */
final class PromiseTests extends HandTests {
    PromiseTests(Check check) {
        super(check);
    }

    static void all(Check check) {
        PromiseTests tests = new PromiseTests(check);
        tests.newObject();
        tests.draw();
        tests.drop();
        tests.see();
        tests.meld();
        tests.meldRefused();
        tests.grow();
        tests.begin();
        tests.sizeAndCount();
        tests.meldsAndMeldAt();
        tests.isComplete();
        tests.waits();
        tests.outs();
        tests.missing();
        tests.missingWithMelds();
        tests.advice();
        tests.setWinds();
        tests.setPoints();
        tests.fansOfTiles();
        tests.fansOfHonours();
        tests.fansOfRows();
        tests.fansOfTheBestArrangement();
        tests.points();
        tests.meanPoints();
        tests.digest();
    }

    /** The call is refused, and nothing is changed by it. */
    private void refusedKeeping(String what, TileHand hand, Class<? extends RuntimeException> want, Check.Call call) {
        long before = hand.digest();
        int size = hand.size();
        check.refused(what, want, call);
        check.same(what + " changes nothing", hand.digest(), before);
        check.same(what + " keeps the size", hand.size(), size);
    }

    private void newObject() {
        TileHand hand = new TileHand();
        check.same("1: size", hand.size(), 0);
        check.same("1: melds", hand.melds(), 0);
        for (int kind = 0; kind < 34; kind++) {
            check.same("1: in the hand " + kind, hand.count(kind, false), 0);
            check.same("1: seen " + kind, hand.count(kind, true), 0);
        }
        check.same("1: limit", hand.setPoints(1, 1), 8);
        check.same("1: seat's wind", hand.setWinds(28, 28), 27);
        // EAST as a THREE is the seat's and the round's wind: 2, no open meld 1, honours and a suit 3.
        TileHand east = holding(27, 27, 27, 0, 0, 0, 1, 1, 1, 2, 3, 4, 5, 5);
        check.same("1: both winds are 27", east.fans(false), 6);
        check.same("1: base is 1", east.points(false), 64);
        TileHand many = holding(9, 9, 9, 10, 10, 10, 11, 11, 11, 12, 12, 12, 13, 13);
        check.same("1: more fans than the limit", many.fans(true) > 8, true);
        check.same("1: limit is 8", many.points(true), 256);
    }

    private void draw() {
        TileHand hand = new TileHand();
        for (int i = 1; i <= 4; i++) {
            check.same("2: draw " + i, hand.draw(33), i);
        }
        refusedKeeping("2: a fifth of a kind", hand, STATE, () -> hand.draw(33));
        check.same("2: kind 0", hand.draw(0), 5);
        check.same("2: counted", hand.count(33, false), 4);
        for (int kind : NO_KINDS) {
            refusedKeeping("2: draw " + kind, hand, INDEX, () -> hand.draw(kind));
        }
        hand.see(5);
        hand.see(5);
        hand.see(5);
        check.same("2: the last one that was not seen", hand.draw(5), 6);
        refusedKeeping("2: three seen and one held", hand, STATE, () -> hand.draw(5));
        drawAll(hand, 10, 11, 12, 13, 14, 15, 16, 17);
        check.same("2: full", hand.size(), 14);
        refusedKeeping("2: a fifteenth", hand, STATE, () -> hand.draw(1));
        refusedKeeping("2: no such kind goes first", hand, INDEX, () -> hand.draw(34));
        TileHand melded = holding(3, 3, 3, 3);
        melded.meld(1, 3, true);
        melded.drop(3);
        refusedKeeping("2: three melded, one seen", melded, STATE, () -> melded.draw(3));
        TileHand four = holding(3, 3, 3, 3);
        four.meld(2, 3, true);
        refusedKeeping("2: four melded", four, STATE, () -> four.draw(3));
        drawAll(four, 0, 0, 0, 1, 1, 1, 2, 2, 2, 9);
        check.same("2: a FOUR counts three for the size", four.draw(10), 14);
        refusedKeeping("2: full with a FOUR", four, STATE, () -> four.draw(11));
    }

    private void drop() {
        TileHand hand = holding(7, 7, 20);
        check.same("3: drop", hand.drop(7), 2);
        check.same("3: one less in the hand", hand.count(7, false), 1);
        check.same("3: it is seen", hand.count(7, true), 1);
        check.same("3: drop again", hand.drop(7), 1);
        check.same("3: both are seen", hand.count(7, true), 2);
        refusedKeeping("3: none in the hand", hand, STATE, () -> hand.drop(7));
        refusedKeeping("3: never there", hand, STATE, () -> hand.drop(0));
        for (int kind : NO_KINDS) {
            refusedKeeping("3: drop " + kind, hand, INDEX, () -> hand.drop(kind));
        }
        TileHand melded = holding(4, 5, 6);
        melded.meld(0, 4, false);
        refusedKeeping("3: a melded tile stays", melded, STATE, () -> melded.drop(5));
    }

    private void see() {
        TileHand hand = holding(9);
        check.same("4: two left", hand.see(9), 2);
        check.same("4: one left", hand.see(9), 1);
        check.same("4: none left", hand.see(9), 0);
        refusedKeeping("4: all seen or held", hand, STATE, () -> hand.see(9));
        check.same("4: seen", hand.count(9, true), 3);
        check.same("4: the hand stays", hand.size(), 1);
        for (int i = 3; i >= 0; i--) {
            check.same("4: of 33", hand.see(33), i);
        }
        refusedKeeping("4: a fifth", hand, STATE, () -> hand.see(33));
        for (int kind : NO_KINDS) {
            refusedKeeping("4: see " + kind, hand, INDEX, () -> hand.see(kind));
        }
        drawAll(hand, 0, 1, 2);
        hand.meld(0, 0, true);
        check.same("4: a melded one is not left", hand.see(1), 2);
        drawAll(hand, 27, 27, 27, 27);
        hand.meld(2, 27, true);
        refusedKeeping("4: four in a meld", hand, STATE, () -> hand.see(27));
    }

    private void meld() {
        TileHand hand = holding(6, 7, 8, 24, 25, 26, 31, 31, 31, 33, 33, 33, 33, 5);
        check.same("5: a ROW keeps the size", hand.meld(0, 6, true), 14);
        check.same("5: its tiles leave the hand", hand.count(6, false) + hand.count(7, false) + hand.count(8, false), 0);
        check.same("5: they are not seen", hand.count(7, true), 0);
        check.same("5: the last ROW", hand.meld(0, 24, false), 14);
        check.same("5: a THREE keeps the size", hand.meld(1, 31, false), 14);
        check.same("5: a FOUR counts three", hand.meld(2, 33, true), 13);
        check.same("5: four melds", hand.melds(), 4);
        check.same("5: its sort", hand.meldAt(3, 0), 2);
        check.same("5: its kind", hand.meldAt(3, 1), 33);
        check.same("5: it is open", hand.meldAt(3, 2), 1);
        check.same("5: the first one's kind", hand.meldAt(0, 1), 6);
        check.same("5: the third one is closed", hand.meldAt(2, 2), 0);
        check.same("5: one tile stays", hand.count(5, false), 1);
        TileHand three = holding(2, 2, 2, 2);
        check.same("5: a THREE of four", three.meld(1, 2, true), 4);
        check.same("5: leaves one", three.count(2, false), 1);
    }

    private void meldRefused() {
        TileHand hand = holding(7, 8, 9, 10, 16, 17, 18, 19, 0, 0, 1, 25, 26, 27);
        for (int kind : NO_KINDS) {
            refusedKeeping("5: of kind " + kind, hand, INDEX, () -> hand.meld(1, kind, true));
            refusedKeeping("5: no kind goes before no sort", hand, INDEX, () -> hand.meld(3, kind, true));
        }
        for (int sort : new int[] {-1, 3, Integer.MIN_VALUE, Integer.MAX_VALUE}) {
            refusedKeeping("5: of sort " + sort, hand, ARGUMENT, () -> hand.meld(sort, 0, true));
        }
        for (int kind : new int[] {7, 8, 16, 17, 25, 26, 27, 28, 29, 30, 31, 32, 33}) {
            refusedKeeping("5: no ROW from " + kind, hand, ARGUMENT, () -> hand.meld(0, kind, true));
        }
        refusedKeeping("5: a ROW without its third", hand, STATE, () -> hand.meld(0, 0, true));
        refusedKeeping("5: a ROW without its first", hand, STATE, () -> hand.meld(0, 6, true));
        TileHand gap = holding(3, 5, 3, 5);
        refusedKeeping("5: a ROW without its second", gap, STATE, () -> gap.meld(0, 3, true));
        refusedKeeping("5: a THREE of two", hand, STATE, () -> hand.meld(1, 0, true));
        TileHand three = holding(0, 0, 0);
        refusedKeeping("5: a FOUR of three", three, STATE, () -> three.meld(2, 0, true));
        TileHand four = holding(0, 0, 0, 1, 1, 1, 2, 2, 2, 3, 3, 3);
        for (int kind = 0; kind < 4; kind++) {
            four.meld(1, kind, false);
        }
        drawAll(four, 5, 5);
        refusedKeeping("5: a fifth meld", four, STATE, () -> four.meld(0, 4, true));
        refusedKeeping("5: no such ROW goes before four melds", four, ARGUMENT, () -> four.meld(0, 8, true));
        TileHand ample = holding(0, 0, 0, 0);
        ample.meld(2, 0, true);
        for (int kind = 1; kind < 4; kind++) {
            drawAll(ample, kind, kind, kind);
            ample.meld(1, kind, true);
        }
        drawAll(ample, 4, 5);
        check.same("5: full of melds", ample.size(), 14);
    }

    private void grow() {
        TileHand hand = holding(30, 30, 30, 30, 2, 3, 4, 3, 3, 3);
        hand.meld(0, 2, true);
        refusedKeeping("6: a ROW does not grow", hand, STATE, () -> hand.grow(2));
        refusedKeeping("6: no THREE yet", hand, STATE, () -> hand.grow(30));
        hand.meld(1, 30, true);
        hand.meld(1, 3, false);
        check.same("6: before", hand.size(), 10);
        check.same("6: the size is one less", hand.grow(30), 9);
        check.same("6: it is a FOUR", hand.meldAt(1, 0), 2);
        check.same("6: of that kind", hand.meldAt(1, 1), 30);
        check.same("6: still open", hand.meldAt(1, 2), 1);
        check.same("6: the others stay", hand.meldAt(0, 0) + hand.meldAt(2, 0), 1);
        check.same("6: the tile left the hand", hand.count(30, false), 0);
        check.same("6: it is not seen", hand.count(30, true), 0);
        refusedKeeping("6: none is left", hand, STATE, () -> hand.see(30));
        refusedKeeping("6: a FOUR does not grow", hand, STATE, () -> hand.grow(30));
        refusedKeeping("6: no such tile in the hand", hand, STATE, () -> hand.grow(3));
        for (int kind : NO_KINDS) {
            refusedKeeping("6: grow " + kind, hand, INDEX, () -> hand.grow(kind));
        }
        hand.draw(5);
        refusedKeeping("6: another THREE does not grow by it", hand, STATE, () -> hand.grow(5));
        TileHand unlaid = holding(0, 0, 27, 27, 27, 27, 29, 29, 29, 30, 30, 30, 31, 31);
        check.same("6: THREEs in the hand", unlaid.isComplete(), false);
        refusedKeeping("6: a THREE that was not laid", unlaid, STATE, () -> unlaid.grow(27));
        unlaid.meld(1, 30, true);
        check.same("6: THREEs in the hand, behind a meld", unlaid.isComplete(), false);
        refusedKeeping("6: a THREE that was not laid, behind a meld", unlaid, STATE, () -> unlaid.grow(27));
        TileHand closed = holding(12, 12, 12, 12);
        closed.meld(1, 12, false);
        check.same("6: a closed one", closed.grow(12), 3);
        check.same("6: stays closed", closed.meldAt(0, 2), 0);
    }

    private void begin() {
        TileHand hand = holding(0, 0, 0, 0, 5, 6, 7, 9);
        check.same("7: nothing to give back", new TileHand().begin(), 0);
        hand.meld(2, 0, true);
        hand.drop(9);
        hand.see(33);
        hand.setWinds(28, 30);
        hand.setPoints(7, 5);
        check.same("7: the size before", hand.begin(), 6);
        TileHand same = new TileHand();
        same.setWinds(28, 30);
        same.setPoints(7, 5);
        check.same("7: all are back, all else stays", hand.digest(), same.digest());
        check.same("7: no size", hand.size(), 0);
        check.same("7: no melds", hand.melds(), 0);
        refusedKeeping("7: no first meld", hand, INDEX, () -> hand.meldAt(0, 0));
        for (int i = 1; i <= 4; i++) {
            check.same("7: the melded ones are back", hand.draw(0), i);
        }
        check.same("7: the dropped ones too", hand.see(9), 3);
        check.same("7: winds stay", hand.setWinds(27, 27), 28);
        check.same("7: the limit stays", hand.setPoints(1, 1), 5);
        check.same("7: a second begin", hand.begin(), 4);
        drawAll(hand, 0, 1, 2, 9, 10, 11);
        hand.meld(0, 9, true);
        hand.meld(0, 0, true);
        hand.begin();
        drawAll(hand, 0, 1, 2, 9, 9, 9, 24, 25, 26, 14, 14, 14, 5, 5);
        check.same("7: no open meld is left", hand.fans(false), 1);
        hand.meld(0, 0, false);
        check.same("7: nor behind a closed one", hand.fans(false), 1);
    }

    private void sizeAndCount() {
        TileHand hand = holding(0, 33, 33, 15);
        hand.see(33);
        check.same("8: tiles", hand.size(), 4);
        drawAll(hand, 1, 2);
        hand.meld(0, 0, true);
        check.same("8: a meld counts three", hand.size(), 6);
        check.same("9: in the hand", hand.count(33, false), 2);
        check.same("9: seen", hand.count(33, true), 1);
        check.same("9: melded ones are not in the hand", hand.count(0, false), 0);
        check.same("9: melded ones are not seen", hand.count(0, true), 0);
        for (int kind : NO_KINDS) {
            refusedKeeping("9: count " + kind, hand, INDEX, () -> hand.count(kind, true));
            refusedKeeping("9: count " + kind, hand, INDEX, () -> hand.count(kind, false));
        }
    }

    private void meldsAndMeldAt() {
        TileHand empty = new TileHand();
        TileHand hand = holding(20, 20, 20, 18, 19, 20, 31, 31, 31, 31);
        check.same("10: none", hand.melds(), 0);
        hand.meld(1, 20, false);
        check.same("10: one", hand.melds(), 1);
        hand.meld(0, 18, true);
        hand.meld(2, 31, false);
        check.same("10: three", hand.melds(), 3);
        int[][] due = {{1, 20, 0}, {0, 18, 1}, {2, 31, 0}};
        for (int meld = 0; meld < 3; meld++) {
            for (int what = 0; what < 3; what++) {
                check.same("11: meldAt " + meld + ", " + what, hand.meldAt(meld, what), due[meld][what]);
            }
        }
        for (int meld : new int[] {-1, 3, 4, Integer.MIN_VALUE, Integer.MAX_VALUE}) {
            refusedKeeping("11: meld " + meld, hand, INDEX, () -> hand.meldAt(meld, 0));
        }
        for (int what : new int[] {-1, 3, Integer.MIN_VALUE, Integer.MAX_VALUE}) {
            refusedKeeping("11: what " + what, hand, INDEX, () -> hand.meldAt(1, what));
        }
        refusedKeeping("11: of an empty hand", empty, INDEX, () -> empty.meldAt(0, 0));
    }

    private void isComplete() {
        check.same("12: empty", new TileHand().isComplete(), false);
        check.same("12: groups and a pair", holding(0, 1, 2, 9, 9, 9, 24, 25, 26, 31, 31, 31, 5, 5).isComplete(), true);
        check.same("12: no pair", holding(0, 1, 2, 9, 9, 9, 24, 25, 26, 31, 31, 31, 5, 6).isComplete(), false);
        check.same("12: a ROW over two suits", holding(7, 8, 9, 10, 11, 12, 0, 0, 0, 1, 1, 1, 2, 2).isComplete(), false);
        check.same("12: a ROW of honours", holding(27, 28, 29, 10, 11, 12, 0, 0, 0, 1, 1, 1, 2, 2).isComplete(), false);
        check.same("12: eleven tiles", holding(0, 1, 2, 9, 9, 9, 24, 25, 26, 5, 5).isComplete(), false);
        check.same("12: SEVEN PAIRS", holding(0, 0, 3, 3, 9, 9, 12, 12, 20, 20, 27, 27, 33, 33).isComplete(), true);
        check.same("12: not seven kinds", holding(0, 0, 0, 0, 9, 9, 12, 12, 20, 20, 27, 27, 33, 33).isComplete(), false);
        TileHand orphans = holding(ORPHANS);
        check.same("12: thirteen", orphans.isComplete(), false);
        orphans.draw(17);
        check.same("12: ORPHANS", orphans.isComplete(), true);
        TileHand almost = holding(ORPHANS);
        almost.draw(1);
        check.same("12: ORPHANS and another", almost.isComplete(), false);
        TileHand twice = holding(0, 0, 8, 8, 9, 17, 18, 26, 27, 28, 29, 30, 31, 32);
        check.same("12: a kind of the ORPHANS is missing", twice.isComplete(), false);
        TileHand pairs = holding(3, 3, 3, 9, 9, 12, 12, 20, 20, 27, 27, 33, 33, 1);
        pairs.meld(1, 3, false);
        check.same("12: pairs with a meld", pairs.isComplete(), false);
        TileHand melded = holding(0, 0, 0, 0, 1, 1, 1, 2, 2, 2, 9, 10, 11);
        melded.meld(2, 0, true);
        melded.meld(1, 1, true);
        melded.meld(1, 2, true);
        melded.meld(0, 9, true);
        drawAll(melded, 33);
        check.same("12: melds and one", melded.isComplete(), false);
        drawAll(melded, 33);
        check.same("12: four melds and a pair", melded.isComplete(), true);
        check.same("12: the pair in the midst", holding(1, 2, 3, 4, 4, 4, 4, 5, 6, 9, 9, 9, 30, 30).isComplete(), true);
        check.same("12: four the same ROW", holding(1, 1, 1, 1, 2, 2, 2, 2, 3, 3, 3, 3, 4, 4).isComplete(), true);
    }

    private void waits() {
        check.same("13: empty", new TileHand().waits(), 0L);
        TileHand gates = holding(0, 0, 0, 1, 2, 3, 4, 5, 6, 7, 8, 8, 8);
        check.same("13: nine kinds", gates.waits(), set(0, 1, 2, 3, 4, 5, 6, 7, 8));
        gates.draw(20);
        check.same("13: of fourteen", gates.waits(), 0L);
        gates.drop(20);
        gates.drop(8);
        check.same("13: of twelve", gates.waits(), 0L);
        check.same("13: any ORPHAN", holding(ORPHANS).waits(), set(ORPHANS));
        TileHand pairs = holding(0, 0, 3, 3, 9, 9, 12, 12, 20, 20, 27, 27, 33);
        check.same("13: the seventh pair, of the last kind", pairs.waits(), set(33));
        check.same("13: for nothing", holding(0, 0, 3, 3, 9, 9, 12, 12, 20, 20, 27, 28, 33).waits(), 0L);
        TileHand four = holding(0, 0, 0, 0, 9, 9, 9, 10, 10, 10, 11, 11, 11);
        check.same("13: not for a fifth", four.waits(), 0L);
        TileHand melded = holding(5, 5, 5, 6, 7, 9, 9, 9, 10, 10, 10, 27, 27);
        melded.meld(1, 5, true);
        check.same("13: both ends, one of them melded thrice", melded.waits(), set(5, 8));
        TileHand grown = holding(5, 5, 5, 5, 6, 7, 9, 9, 9, 10, 10, 10, 27, 27);
        grown.meld(2, 5, true);
        check.same("13: not for a fifth with the melds", grown.waits(), set(8));
        grown.see(8);
        grown.see(8);
        grown.see(8);
        grown.see(8);
        check.same("13: even if all were seen", grown.waits(), set(8));
    }

    private void outs() {
        check.same("14: empty", new TileHand().outs(), 0);
        check.same("14: ORPHANS", holding(ORPHANS).outs(), 39);
        TileHand gates = holding(0, 0, 0, 1, 2, 3, 4, 5, 6, 7, 8, 8, 8);
        check.same("14: nine kinds", gates.outs(), 23);
        gates.see(0);
        gates.see(4);
        gates.see(33);
        check.same("14: less those seen", gates.outs(), 21);
        TileHand melded = holding(5, 5, 5, 6, 7, 9, 9, 9, 10, 10, 10, 27, 27);
        melded.meld(1, 5, true);
        check.same("14: less those in melds", melded.outs(), 5);
        melded.see(5);
        check.same("14: one kind is gone", melded.outs(), 4);
        melded.draw(20);
        check.same("14: of fourteen", melded.outs(), 0);
    }

    private void missing() {
        check.same("15: empty", new TileHand().missing(), 14);
        check.same("15: one", holding(20).missing(), 13);
        check.same("15: four of a kind, far off", holding(33, 33, 33, 33).missing(), 11);
        check.same("15: complete", holding(0, 1, 2, 9, 9, 9, 24, 25, 26, 31, 31, 31, 5, 5).missing(), 0);
        check.same("15: ORPHANS wait", holding(ORPHANS).missing(), 1);
        check.same("15: ORPHANS, of twelve kinds", holding(0, 8, 9, 17, 18, 26, 27, 28, 29, 30, 31, 32).missing(), 2);
        check.same("15: SEVEN PAIRS", holding(0, 0, 3, 3, 6, 6, 12, 12, 20, 20, 27, 27, 33).missing(), 1);
        check.same("15: five pairs and three more kinds", holding(0, 0, 3, 3, 6, 6, 12, 12, 20, 20, 27, 28, 33).missing(), 2);
        // Three THREEs, the pair 33, and the fourth 0 in a ROW.
        check.same("15: fours", holding(0, 0, 0, 0, 5, 5, 5, 5, 27, 27, 27, 27, 33, 33).missing(), 2);
        check.same("15: fours side by side", holding(0, 0, 0, 0, 1, 1, 1, 1, 27, 27, 27, 27, 33, 33).missing(), 1);
        check.same("15: a ROW without its midst", holding(0, 2, 9, 9, 9, 24, 25, 26, 31, 31, 31, 5, 5).missing(), 1);
        check.same("15: no ROW over two suits", holding(7, 8, 9, 10, 11, 15, 15, 15, 24, 24, 24, 33, 33, 33).missing(), 1);
        check.same("15: no ROW of honours", holding(27, 28, 29, 5, 5).missing(), 14 - 5);
        check.same("15: three the same ROW", holding(1, 1, 1, 2, 2, 2, 3, 3, 3, 20, 20, 20, 33).missing(), 1);
        check.same("15: four the same ROW", holding(1, 1, 1, 1, 2, 2, 2, 2, 3, 3, 3, 3, 4).missing(), 1);
        check.same("15: seen ones do not matter", missingWithSeen(), 1);
    }

    /** The fourth tile of a kind that is melded thrice can be in a ROW alone, and no ROW can have the kind 5. */
    private void missingInWornRows() {
        for (int only : new int[] {0, 6, 7, 8}) {
            TileHand hand = holdingBetween(5, only, 31);
            drawAll(hand, only, 20, 20);
            check.same("15: in a ROW alone, " + only, hand.missing(), 2);
        }
    }

    /** Melds: a FOUR, a THREE, and a THREE. */
    private static TileHand holdingBetween(int four, int three, int other) {
        TileHand hand = holding(four, four, four, four, three, three, three, other, other, other);
        hand.meld(2, four, true);
        hand.meld(1, three, true);
        hand.meld(1, other, true);
        return hand;
    }

    private int missingWithSeen() {
        TileHand hand = holding(0, 1, 2, 9, 9, 9, 24, 25, 26, 31, 31, 31, 5);
        hand.see(5);
        hand.see(5);
        hand.see(5);
        return hand.missing();
    }

    private void missingWithMelds() {
        TileHand hand = holding(0, 0, 0, 0);
        hand.meld(2, 0, true);
        check.same("15: a meld", hand.missing(), 11);
        drawAll(hand, 9, 9, 12, 12, 20, 20, 27, 27, 3);
        // THREEs of three pairs' kinds and the pair of a fourth: 11 - 8; SEVEN PAIRS would miss less.
        check.same("15: no SEVEN PAIRS with a meld", hand.missing(), 3);
        TileHand pair = new TileHand();
        for (int kind = 0; kind < 4; kind++) {
            drawAll(pair, kind, kind, kind);
            pair.meld(1, kind, false);
        }
        pair.draw(0);
        check.same("15: a pair of a kind melded thrice can't be", pair.missing(), 2);
        pair.draw(20);
        check.same("15: another pair can", pair.missing(), 1);
        missingInWornRows();
        TileHand row = holdingBetween(0, 3, 31);
        drawAll(row, 1, 2, 20, 20);
        check.same("15: a ROW with a kind melded thrice", row.missing(), 1);
        row.drop(20);
        drawAll(row, 3);
        row.grow(3);
        drawAll(row, 20);
        check.same("15: no ROW with a fifth", row.missing(), 2);
        TileHand orphans = holding(0, 0, 0, 8, 9, 17, 18, 26, 27, 28, 29, 30, 31, 32);
        orphans.meld(1, 0, false);
        check.same("15: no ORPHANS with a meld", orphans.missing(), 7);
    }

    private void advice() {
        TileHand empty = new TileHand();
        refusedKeeping("16: empty", empty, STATE, () -> empty.advice());
        TileHand melded = holding(4, 5, 6);
        melded.meld(0, 4, true);
        refusedKeeping("16: melds alone", melded, STATE, () -> melded.advice());
        check.same("16: one tile", holding(33).advice(), 33);
        check.same("16: the odd one", holding(0, 1, 2, 9, 9, 9, 24, 25, 26, 31, 31, 31, 5, 16).advice(), 5);
        check.same("16: kind 0", holding(0, 3, 3, 9, 9, 9, 24, 25, 26, 31, 31, 31, 17, 18).advice(), 0);
        check.same("16: behind the needed ones",
                holding(0, 1, 2, 3, 3, 9, 9, 9, 24, 25, 26, 31, 31, 17).advice(), 17);
        TileHand complete = holding(3, 4, 5, 9, 9, 9, 24, 25, 26, 31, 31, 31, 5, 5);
        check.same("16: of equals the smallest", complete.advice(), 3);
        long before = complete.digest();
        complete.advice();
        check.same("16: only tells", complete.digest(), before);
        TileHand fifth = holding(9, 9, 9, 9, 12, 12, 12, 12);
        fifth.meld(2, 9, true);
        fifth.meld(2, 12, true);
        drawAll(fifth, 0, 0, 0, 10, 11, 20, 20);
        check.same("16: of a ROW that would need a fifth", fifth.advice(), 10);
        TileHand pairs = holding(1, 1, 4, 4, 9, 9, 12, 12, 20, 20, 27, 27, 33, 33);
        pairs.drop(33);
        pairs.draw(7);
        check.same("16: one of SEVEN PAIRS or another", pairs.advice(), 7);
    }

    private void setWinds() {
        TileHand hand = new TileHand();
        check.same("17: before", hand.setWinds(30, 28), 27);
        check.same("17: then", hand.setWinds(27, 30), 30);
        check.same("17: and then", hand.setWinds(29, 27), 27);
        for (int wind : new int[] {-1, 0, 26, 31, 34, Integer.MIN_VALUE, Integer.MAX_VALUE}) {
            refusedKeeping("17: seat " + wind, hand, ARGUMENT, () -> hand.setWinds(wind, 28));
            refusedKeeping("17: round " + wind, hand, ARGUMENT, () -> hand.setWinds(28, wind));
        }
        check.same("17: kept", hand.setWinds(29, 27), 29);
    }

    private void setPoints() {
        TileHand hand = new TileHand();
        check.same("18: before", hand.setPoints(100, 13), 8);
        check.same("18: then", hand.setPoints(1, 1), 13);
        check.same("18: and then", hand.setPoints(50, 6), 1);
        for (int base : new int[] {-1, 0, 101, Integer.MIN_VALUE, Integer.MAX_VALUE}) {
            refusedKeeping("18: base " + base, hand, ARGUMENT, () -> hand.setPoints(base, 5));
        }
        for (int limit : new int[] {-1, 0, 14, Integer.MIN_VALUE, Integer.MAX_VALUE}) {
            refusedKeeping("18: limit " + limit, hand, ARGUMENT, () -> hand.setPoints(5, limit));
        }
        check.same("18: kept", hand.setPoints(1, 1), 6);
    }

    private void fansOfTiles() {
        TileHand empty = new TileHand();
        refusedKeeping("19: empty", empty, STATE, () -> empty.fans(true));
        TileHand waiting = holding(ORPHANS);
        refusedKeeping("19: thirteen", waiting, STATE, () -> waiting.fans(false));
        refusedKeeping("20: thirteen", waiting, STATE, () -> waiting.points(false));
        TileHand plain = holding(0, 1, 2, 9, 9, 9, 24, 25, 26, 14, 14, 14, 5, 5);
        check.same("19: no open meld", plain.fans(false), 1);
        check.same("19: SELF", plain.fans(true), 2);
        plain.meld(1, 9, false);
        check.same("19: a closed meld", plain.fans(false), 1);
        plain.meld(0, 0, true);
        check.same("19: an open meld", plain.fans(false), 0);
        check.same("19: neither ends nor honours",
                holding(1, 2, 3, 10, 10, 10, 23, 24, 25, 14, 14, 14, 5, 5).fans(false), 2);
        TileHand end = holding(0, 1, 2, 10, 10, 10, 23, 24, 25, 14, 14, 14, 5, 5);
        end.meld(0, 0, false);
        check.same("19: an end in a meld", end.fans(false), 1);
        TileHand honour = holding(28, 28, 28, 10, 10, 10, 22, 23, 24, 14, 14, 14, 5, 5);
        honour.meld(1, 28, false);
        check.same("19: honours in a meld", honour.fans(false), 1);
        check.same("19: one suit and honours", holding(0, 1, 2, 3, 4, 5, 6, 7, 8, 3, 3, 3, 28, 28).fans(false), 1 + 3);
        check.same("19: one suit", holding(0, 1, 2, 3, 4, 5, 6, 7, 8, 3, 3, 3, 1, 1).fans(false), 1 + 6);
        check.same("19: the last suit, with its last kind",
                holding(18, 19, 20, 18, 19, 20, 24, 25, 26, 21, 21, 21, 26, 26).fans(false), 1 + 6 + 1);
        check.same("19: the suits' last kinds are no honours",
                holding(8, 8, 8, 17, 17, 17, 26, 26, 26, 1, 2, 3, 5, 5).fans(false), 1);
        TileHand other = holding(9, 10, 11, 3, 4, 5, 6, 7, 8, 3, 3, 3, 1, 1);
        other.meld(0, 9, false);
        check.same("19: another suit in a meld", other.fans(false), 1);
        check.same("19: SEVEN PAIRS", holding(0, 0, 3, 3, 9, 9, 12, 12, 20, 20, 27, 27, 33, 33).fans(false), 1 + 2);
        check.same("19: SEVEN PAIRS of honours",
                holding(27, 27, 28, 28, 29, 29, 30, 30, 31, 31, 32, 32, 33, 33).fans(false), 1 + 6 + 2);
        TileHand orphans = holding(ORPHANS);
        orphans.draw(0);
        check.same("19: ORPHANS", orphans.fans(true), 1 + 1 + 13);
    }

    private void fansOfHonours() {
        // All honours 6, no open meld 1, no ROW 2, dragons 1 each, winds as they are.
        TileHand winds = holding(27, 27, 27, 28, 28, 28, 29, 29, 29, 31, 31, 31, 33, 33);
        check.same("19: seat and round 27", winds.fans(false), 6 + 1 + 2 + 1 + 2);
        winds.setWinds(28, 29);
        check.same("19: seat 28, round 29", winds.fans(false), 6 + 1 + 2 + 1 + 2);
        winds.setWinds(28, 30);
        check.same("19: seat 28, round 30", winds.fans(false), 6 + 1 + 2 + 1 + 1);
        winds.setWinds(30, 30);
        check.same("19: neither", winds.fans(false), 6 + 1 + 2 + 1);
        winds.setWinds(30, 29);
        check.same("19: the round's alone", winds.fans(false), 6 + 1 + 2 + 1 + 1);
        winds.meld(1, 29, true);
        check.same("19: in an open meld", winds.fans(false), 6 + 2 + 1 + 1);
        winds.meld(1, 31, false);
        winds.drop(33);
        drawAll(winds, 31);
        winds.grow(31);
        drawAll(winds, 33);
        check.same("19: a FOUR of dragons", winds.fans(false), 6 + 2 + 1 + 1 + 1);
        TileHand others = holding(28, 28, 28, 29, 29, 29, 30, 30, 30, 0, 1, 2, 20, 20);
        check.same("19: three winds of others", others.fans(false), 1);
        TileHand dragons = holding(31, 31, 31, 32, 32, 32, 33, 33, 33, 0, 1, 2, 20, 20);
        check.same("19: three dragons", dragons.fans(false), 1 + 3);
        TileHand fours = holding(1, 1, 1, 1, 9, 9, 9, 9);
        fours.meld(2, 1, false);
        fours.meld(2, 9, true);
        drawAll(fours, 22, 22, 22, 2, 3, 4, 5, 5);
        check.same("19: two FOURs", fours.fans(false), 2);
        TileHand inHand = holding(1, 1, 1, 1, 2, 3, 9, 9, 9, 23, 24, 25, 32, 32);
        check.same("19: four tiles in the hand are no FOUR", inHand.fans(false), 1);
        check.same("19: no ROW", holding(0, 0, 0, 12, 12, 12, 24, 24, 24, 29, 29, 29, 5, 5).fans(false), 1 + 2);
        TileHand row = holding(0, 0, 0, 12, 12, 12, 24, 24, 24, 3, 4, 5, 5, 5);
        row.meld(0, 3, false);
        check.same("19: a ROW in a meld", row.fans(false), 1);
    }

    private void fansOfRows() {
        int[] rows = {0, 1, 2, 12, 13, 14, 15, 16, 17, 24, 25, 26};
        int[] pairFans = {1, 1, 0, 0, 1, 0, 0, 0, 1};
        int[] pairs = {5, 29, 28, 30, 27, 31, 32, 33, 26};
        for (int i = 0; i < pairs.length; i++) {
            TileHand hand = holding(rows);
            hand.setWinds(28, 30);
            drawAll(hand, pairs[i], pairs[i]);
            check.same("19: ROWs and a pair of " + pairs[i], hand.fans(false), 1 + pairFans[i]);
            hand.meld(0, 12, true);
            check.same("19: a ROW melded, a pair of " + pairs[i], hand.fans(false), pairFans[i]);
        }
        TileHand twins = holding(0, 1, 2, 0, 1, 2, 12, 13, 14, 15, 15, 15, 22, 22);
        check.same("19: the same ROW twice", twins.fans(false), 1 + 1);
        twins.meld(0, 0, false);
        check.same("19: one of them melded", twins.fans(false), 1);
        twins.meld(0, 0, false);
        check.same("19: both melded", twins.fans(false), 1);
        check.same("19: twice two, but not SEVEN PAIRS",
                holding(0, 1, 2, 0, 1, 2, 12, 13, 14, 12, 13, 14, 31, 31).fans(false), 1 + 2);
        check.same("19: twice two, ROWs alone",
                holding(0, 1, 2, 0, 1, 2, 12, 13, 14, 12, 13, 14, 22, 22).fans(false), 1 + 2 + 1);
        check.same("19: three count once",
                holding(0, 1, 2, 0, 1, 2, 0, 1, 2, 12, 13, 14, 22, 22).fans(false), 1 + 1 + 1);
        check.same("19: four count once",
                holding(0, 1, 2, 0, 1, 2, 0, 1, 2, 0, 1, 2, 22, 22).fans(false), 1 + 1 + 1);
    }

    private void fansOfTheBestArrangement() {
        TileHand hand = holding(0, 1, 2, 0, 1, 2, 0, 1, 2, 20, 20, 20, 12, 12);
        check.same("19: THREEs rather than ROWs", hand.fans(false), 1 + 2);
        TileHand open = holding(0, 1, 2, 0, 1, 2, 0, 1, 2, 20, 21, 22, 12, 12);
        open.meld(0, 20, true);
        check.same("19: ROWs alone, and the same thrice", open.fans(false), 1 + 1);
        TileHand pairs = holding(0, 0, 1, 1, 2, 2, 12, 12, 13, 13, 14, 14, 22, 22);
        check.same("19: twice two ROWs rather than SEVEN PAIRS", pairs.fans(false), 1 + 3);
        pairs.setWinds(30, 30);
        TileHand suit = holding(1, 1, 2, 2, 3, 3, 4, 4, 5, 5, 6, 6, 7, 7);
        check.same("19: in one suit", suit.fans(false), 1 + 1 + 6 + 3);
        TileHand few = holding(0, 0, 0, 1, 1, 1, 2, 2, 2, 3, 3, 3, 31, 31);
        check.same("19: with dragons' pair THREEs", few.fans(false), 1 + 3 + 2);
    }

    private void points() {
        TileHand empty = new TileHand();
        TileHand hand = holding(0, 1, 2, 9, 9, 9, 24, 25, 26, 14, 14, 14, 5, 5);
        check.same("20: one fan", hand.points(false), 2);
        check.same("20: two fans", hand.points(true), 4);
        hand.setPoints(7, 1);
        check.same("20: the limit", hand.points(true), 14);
        hand.meld(1, 9, true);
        check.same("20: no fan", hand.points(false), 7);
        TileHand orphans = holding(ORPHANS);
        refusedKeeping("20: not complete", orphans, STATE, () -> orphans.points(true));
        orphans.draw(33);
        orphans.setPoints(100, 13);
        check.same("20: the most", orphans.points(true), 819200);
        orphans.setPoints(100, 12);
        check.same("20: a limit of 12", orphans.points(true), 409600);
        refusedKeeping("20: empty", empty, STATE, () -> empty.points(true));
    }

    private void meanPoints() {
        check.same("21: empty", new TileHand().meanPoints(true), 0.0);
        // With 9 no ROW (2 and 1 for dragons more); kinds 10 and 31: a pair of each, one becomes a THREE.
        TileHand hand = holding(0, 1, 2, 3, 4, 5, 12, 13, 14, 10, 10, 31, 31);
        check.same("21: waits", hand.waits(), set(10, 31));
        check.same("21: 2 * 2 and 2 * 4 by 4", hand.meanPoints(false), 3.0);
        check.same("21: SELF", hand.meanPoints(true), 6.0);
        hand.see(31);
        check.same("21: 2 * 2 and 4 by 3", hand.meanPoints(false), 8.0 / 3.0);
        hand.setPoints(3, 1);
        check.same("21: base and limit", hand.meanPoints(false), 6.0);
        hand.see(31);
        check.same("21: one kind is gone", hand.meanPoints(true), 6.0);
        hand.see(10);
        hand.see(10);
        check.same("21: none are left", hand.meanPoints(true), 0.0);
        hand.draw(20);
        check.same("21: of fourteen", hand.meanPoints(true), 0.0);
        TileHand two = holding(1, 2, 3, 4, 5, 6, 12, 13, 14, 22, 22, 9, 10);
        check.same("21: waits", two.waits(), set(11));
        check.same("21: one kind", two.meanPoints(false), 4.0);
        TileHand first = holding(1, 2, 3, 4, 5, 12, 13, 14, 22, 22, 9, 10, 11);
        check.same("21: waits", first.waits(), set(0, 3, 6));
        check.same("21: kind 0 and two more, ROWs alone", first.meanPoints(false), 4.0);
        TileHand ends = holding(1, 2, 3, 4, 5, 12, 13, 14, 22, 22, 12, 13, 14);
        check.same("21: four of 0, three of 3, four of 6", ends.meanPoints(true), (4 * 16 + 3 * 32 + 4 * 32) / 11.0);
    }

    private static long digestOf(int[] hand, int[] seen, long... rest) {
        long d = 271;
        for (int kind = 0; kind < 34; kind++) {
            d = (d * 31 + hand[kind]) * 31 + seen[kind];
        }
        for (long x : rest) {
            d = d * 31 + x;
        }
        return d;
    }

    private void digest() {
        int[] held = new int[34];
        int[] seen = new int[34];
        check.same("22: empty", new TileHand().digest(), digestOf(held, seen, 0, 27, 27, 1, 8, 0, 14));
        TileHand hand = holding(5, 5, 5, 6, 7, 9, 9, 9, 10, 10, 10, 33, 33);
        hand.meld(1, 5, true);
        hand.meld(1, 9, false);
        hand.setWinds(28, 30);
        hand.setPoints(12, 5);
        hand.see(8);
        hand.see(0);
        held[6] = 1;
        held[7] = 1;
        held[10] = 3;
        held[33] = 2;
        seen[8] = 1;
        seen[0] = 1;
        check.same("22: a hand that waits", hand.digest(),
                digestOf(held, seen, 2, 1, 5, 1, 1, 9, 0, 28, 30, 12, 5, set(5, 8), 1));
    }
}
