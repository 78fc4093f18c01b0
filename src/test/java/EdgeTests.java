import java.math.BigInteger;

/**
 * Sentence by sentence: what the document says of tiles, hands, arrangements
 * and settings just at their edges, on the side that is allowed, too. The
 * calls that are refused there stand in RefusalTests.
 */
final class EdgeTests extends HandTests {
    EdgeTests(Check check) {
        super(check);
    }

    static void all(Check check) {
        EdgeTests tests = new EdgeTests(check);
        tests.lastCall();
        tests.kinds();
        tests.fourTilesOfEach();
        tests.fourAllTogether();
        tests.whereRowsBegin();
        tests.rowsStayInTheirSuit();
        tests.waitsAtTheEndsOfSuits();
        tests.setsOfKinds();
        tests.sizeAndMelds();
        tests.fullHands();
        tests.grow();
        tests.begin();
        tests.completeWithMelds();
        tests.completeInSize14Alone();
        tests.sevenPairs();
        tests.orphans();
        tests.waitsInSize13Alone();
        tests.waitsForAFourth();
        tests.waitsForNoFifth();
        tests.outs();
        tests.missingOfNothingAndAll();
        tests.missingOnceForEach();
        tests.missingWithAtMostFour();
        tests.twoSortsWithoutMelds();
        tests.advice();
        tests.settings();
        tests.meanPoints();
        tests.digestWraps();
        tests.digestOfFourMelds();
    }

    /** "An object is used for at most 512 calls": the last of them is answered as the first. */
    private void lastCall() {
        TileHand hand = new TileHand();
        int calls = 0;
        while (calls < 510) {
            hand.draw(calls % 34);
            hand.begin();
            calls += 2;
        }
        check.same("call 511", hand.draw(33), 1);
        check.same("call 512", hand.draw(33), 2);
    }

    /** "There are 34 kinds, 0 to 33". */
    private void kinds() {
        for (int kind = 0; kind < 34; kind++) {
            TileHand hand = new TileHand();
            check.same("2: draws " + kind, hand.draw(kind), 1);
            check.same("4: sees " + kind, hand.see(kind), 2);
            check.same("3: drops " + kind, hand.drop(kind), 0);
            check.same("9: none held of " + kind, hand.count(kind, false), 0);
            check.same("9: two seen of " + kind, hand.count(kind, true), 2);
            hand.begin();
            drawAll(hand, kind, kind, kind, kind);
            check.same("9: four held of " + kind, hand.count(kind, false), 4);
            check.same("5: a THREE of " + kind, hand.meld(1, kind, true), 4);
            check.same("11: its kind", hand.meldAt(0, 1), kind);
            check.same("6: grows to a FOUR of " + kind, hand.grow(kind), 3);
            check.same("9: none held behind it of " + kind, hand.count(kind, false), 0);
            TileHand other = holding(kind, kind, kind, kind);
            check.same("5: a FOUR of " + kind, other.meld(2, kind, false), 3);
            check.same("11: the FOUR's kind", other.meldAt(0, 1), kind);
        }
    }

    /** "four tiles of each": one after the other, to the last. */
    private void fourTilesOfEach() {
        for (int kind = 0; kind < 34; kind++) {
            TileHand held = new TileHand();
            TileHand seen = new TileHand();
            for (int i = 1; i <= 4; i++) {
                check.same("2: " + i + " of " + kind, held.draw(kind), i);
                check.same("4: " + i + " of " + kind, seen.see(kind), 4 - i);
            }
            check.same("9: held of " + kind, held.count(kind, false), 4);
            check.same("9: seen of " + kind, seen.count(kind, true), 4);
            for (int i = 3; i >= 0; i--) {
                check.same("3: drops to " + i, held.drop(kind), i);
            }
            check.same("9: all dropped of " + kind, held.count(kind, true), 4);
        }
    }

    /** "at most four tiles in the hand, in its melds, and among the tiles that were seen": the fourth is allowed. */
    private void fourAllTogether() {
        for (int held = 0; held <= 3; held++) {
            for (int melded = 0; held + melded <= 3; melded++) {
                fourth(held, melded, 3 - held - melded);
            }
        }
    }

    private void fourth(int held, int melded, int seen) {
        String where = ": " + held + " held, " + melded + " melded, " + seen + " seen";
        TileHand drawing = handAfter(hand -> fourthIsLeft(hand, held, melded, seen));
        TileHand seeing = handAfter(hand -> fourthIsLeft(hand, held, melded, seen));
        int size = drawing.size();
        check.same("2: the fourth" + where, drawing.draw(12), size + 1);
        check.same("4: the fourth" + where, seeing.see(12), 0);
        check.same("9: then held" + where, drawing.count(12, false), held + 1);
        check.same("9: then seen" + where, seeing.count(12, true), seen + 1);
    }

    private static void fourthIsLeft(TileHand hand, int held, int melded, int seen) {
        if (melded == 3) {
            lay(hand, 1, 12, true);
        } else {
            for (int i = 0; i < melded; i++) {
                lay(hand, 0, 12 - i, false);
            }
        }
        for (int i = 0; i < held; i++) {
            hand.draw(12);
        }
        seeTimes(hand, 12, seen);
    }

    /** "a ROW: three kinds of a suit, one behind the other"; seven begin in each suit. */
    private void whereRowsBegin() {
        for (int suit : SUITS) {
            for (int first = suit; first <= suit + 6; first++) {
                TileHand hand = holding(first, first, first + 1, first + 2, 33);
                check.same("5: a ROW from " + first, hand.meld(0, first, true), 5);
                check.same("11: its sort", hand.meldAt(0, 0), 0);
                check.same("11: its first kind", hand.meldAt(0, 1), first);
                check.same("5: one of its first stays", hand.count(first, false), 1);
                check.same("5: none of its second", hand.count(first + 1, false), 0);
                check.same("5: none of its third", hand.count(first + 2, false), 0);
                check.same("4: its last is not left", hand.see(first + 2), 2);
            }
        }
    }

    /** Three kinds over an edge of a suit, or round it, are no ROW: beside three THREEs and a pair some are missing. */
    private void rowsStayInTheirSuit() {
        int[][] twoSideBySide = {
            {7, 8, 9}, {8, 9, 10}, {16, 17, 18}, {17, 18, 19}, {25, 26, 27}, {7, 8, 0}, {8, 0, 1}, {16, 17, 9},
            {17, 9, 10}, {25, 26, 18}, {26, 18, 19}, {25, 26, 0}};
        int[][] apart = {
            {26, 27, 28}, {27, 28, 29}, {28, 29, 30}, {29, 30, 31}, {30, 31, 32}, {31, 32, 33}, {33, 32, 0}};
        for (int[] kinds : twoSideBySide) {
            noRow(kinds, 1);
        }
        for (int[] kinds : apart) {
            noRow(kinds, 2);
        }
        TileHand row = besideThrees(new int[] {24, 25, 26});
        check.same("12: the last ROW", row.isComplete(), true);
        check.same("15: the last ROW", row.missing(), 0);
    }

    private void noRow(int[] kinds, int missing) {
        TileHand hand = besideThrees(kinds);
        String what = kinds[0] + ", " + kinds[1] + ", " + kinds[2];
        check.same("12: no ROW " + what, hand.isComplete(), false);
        check.same("15: no ROW " + what, hand.missing(), missing);
        hand.drop(kinds[2]);
        check.same("13: no ROW " + what, hand.waits() >> kinds[2] & 1, 0L);
    }

    /** Three THREEs and a pair that have nothing to do with these kinds, and these. */
    private static TileHand besideThrees(int[] kinds) {
        TileHand hand = holding(3, 3, 3, 12, 12, 12, 21, 21, 21, 5, 5);
        drawAll(hand, kinds);
        return hand;
    }

    /** Two of a ROW at the ends of each suit. */
    private void waitsAtTheEndsOfSuits() {
        for (int suit : SUITS) {
            check.same("13: first two of " + suit, waitsBeside(suit, suit + 1), set(suit + 2));
            check.same("13: last two of " + suit, waitsBeside(suit + 7, suit + 8), set(suit + 6));
            check.same("13: first and third of " + suit, waitsBeside(suit, suit + 2), set(suit + 1));
            check.same("13: last but two, and last of " + suit, waitsBeside(suit + 6, suit + 8), set(suit + 7));
            check.same("13: second and third of " + suit, waitsBeside(suit + 1, suit + 2), set(suit, suit + 3));
            check.same("13: the two before the last of " + suit, waitsBeside(suit + 6, suit + 7),
                    set(suit + 5, suit + 8));
            check.same("13: last and first of " + suit, waitsBeside(suit + 8, suit), 0L);
            check.same("13: last, and the next kind, of " + suit, waitsBeside(suit + 8, suit + 9), 0L);
        }
        check.same("13: two honours", waitsBeside(27, 28), 0L);
    }

    private static long waitsBeside(int one, int other) {
        TileHand hand = holding(29, 29, 29, 30, 30, 30, 31, 31, 31, 33, 33);
        drawAll(hand, one, other);
        return hand.waits();
    }

    /** "Sets of kinds are told as the sum of the powers 2^k": of each kind alone, beyond 2^31, too. */
    private void setsOfKinds() {
        for (int kind = 0; kind < 34; kind++) {
            TileHand hand = new TileHand();
            for (int three = 27; hand.size() < 12; three++) {
                if (three != kind) {
                    drawAll(hand, three, three, three);
                }
            }
            hand.draw(kind);
            check.same("13: for " + kind + " alone", hand.waits(), BigInteger.TWO.pow(kind).longValueExact());
        }
        check.same("13: 32 and 33", holding(0, 1, 2, 9, 9, 9, 18, 19, 20, 32, 32, 33, 33).waits(), 12884901888L);
    }

    /** "the number of tiles in it and three for each meld"; "at most 4 melds". */
    private void sizeAndMelds() {
        for (int sort = 0; sort <= 2; sort++) {
            TileHand hand = new TileHand();
            for (int meld = 0; meld < 4; meld++) {
                check.same("10: melds", hand.melds(), meld);
                lay(hand, sort, 9 * (meld / 2) + 4 * (meld % 2), meld % 2 == 0);
                check.same("8: three for each meld of sort " + sort, hand.size(), 3 * (meld + 1));
            }
            check.same("10: four melds", hand.melds(), 4);
            check.same("11: the first one is open", hand.meldAt(0, 2), 1);
            check.same("11: the fourth one's sort", hand.meldAt(3, 0), sort);
            check.same("11: the fourth one's kind", hand.meldAt(3, 1), 13);
            check.same("11: the fourth one is closed", hand.meldAt(3, 2), 0);
            check.same("2: the thirteenth", hand.draw(33), 13);
            check.same("2: the fourteenth", hand.draw(33), 14);
            check.same("12: with a pair", hand.isComplete(), true);
        }
    }

    /** In a hand of the size 14 all but draw goes on. */
    private void fullHands() {
        TileHand hand = holding(0, 0, 0, 0, 1, 2, 3, 9, 9, 9, 20, 20, 33, 32);
        check.same("4: a full hand sees", hand.see(33), 2);
        check.same("4: to the last", hand.see(33) + 2 * hand.see(32), 1 + 2 * 2);
        check.same("5: a full hand lays", hand.meld(1, 0, true), 14);
        check.same("6: a full hand grows a THREE", hand.grow(0), 13);
        check.same("2: and draws again", hand.draw(33), 14);
        check.same("3: a full hand drops", hand.drop(33), 13);
        check.same("2: and draws another", hand.draw(20), 14);
        check.same("7: a full hand begins anew", hand.begin(), 14);
        check.same("8: then it is empty", hand.size(), 0);
        check.same("3: the last tile", holding(33).drop(33), 0);
    }

    /** "Makes a THREE that was laid a FOUR": each of four, wherever it stands, and a ROW of the same kind stays. */
    private void grow() {
        for (int grown = 0; grown < 4; grown++) {
            TileHand hand = new TileHand();
            for (int meld = 0; meld < 4; meld++) {
                lay(hand, 1, 8 + meld, meld % 2 == 1);
            }
            hand.draw(8 + grown);
            check.same("6: the meld " + grown, hand.grow(8 + grown), 12);
            for (int meld = 0; meld < 4; meld++) {
                check.same("6: its sort " + meld, hand.meldAt(meld, 0), meld == grown ? 2 : 1);
                check.same("6: its kind " + meld, hand.meldAt(meld, 1), 8 + meld);
                check.same("6: its openness " + meld, hand.meldAt(meld, 2), meld % 2);
            }
        }
        TileHand mixed = holding(3, 4, 5, 3, 3, 3, 4);
        mixed.meld(0, 3, true);
        mixed.meld(1, 3, false);
        check.same("9: no fourth in the hand", mixed.count(3, false), 0);
        TileHand behind = holding(6, 6, 6, 7, 8, 7, 7, 7);
        behind.meld(1, 6, false);
        Object refused = Check.outcome(() -> behind.meld(0, 6, true));
        check.same("5: the ROW lacks its first", refused, "throws.IllegalStateException");
        behind.draw(6);
        check.same("6: though a ROW was refused", behind.grow(6), 8 - 3 + 3);
    }

    /** "all tiles are back; winds, base and limit stay". */
    private void begin() {
        TileHand hand = new TileHand();
        check.same("7: an empty hand", hand.begin(), 0);
        hand.setWinds(28, 29);
        hand.setPoints(3, 13);
        for (int kind = 0; kind < 4; kind++) {
            lay(hand, 2, kind, true);
        }
        drawAll(hand, 33, 33);
        seeTimes(hand, 32, 4);
        check.same("7: four FOURs and a pair", hand.begin(), 14);
        check.same("7: begun, and begun again", hand.begin(), 0);
        for (int kind = 0; kind < 34; kind++) {
            check.same("7: all are back, of " + kind, hand.see(kind), 3);
        }
        hand.begin();
        drawAll(hand, 28, 28, 28, 29, 29, 29, 30, 30, 30, 31, 31, 31, 32, 32);
        check.same("7: the winds stay", hand.fans(false), 1 + 6 + 2 + 1 + 1 + 1);
        check.same("7: base and limit stay", hand.points(false), 3 * 4096);
        check.same("7: the limit is 13", hand.setPoints(1, 1), 13);
        check.same("7: a complete hand", hand.begin(), 14);
        check.same("7: nothing is held", hand.missing(), 14);
        lay(hand, 2, 5, false);
        check.same("7: the first meld is the first again", hand.melds(), 1);
        check.same("11: it is closed, though the first one was open", hand.meldAt(0, 2), 0);
    }

    /** "An arrangement for a hand with m melds are 4 - m groups and a pair": m from 0 to 4. */
    private void completeWithMelds() {
        for (int melds = 0; melds <= 4; melds++) {
            TileHand hand = new TileHand();
            for (int meld = 0; meld < melds; meld++) {
                lay(hand, meld % 3, 9 * (meld % 2) + 4 * (meld / 2), true);
            }
            int[][] groups = {{31, 31, 31}, {18, 19, 20}, {21, 22, 23}, {24, 25, 26}};
            for (int group = melds; group < 4; group++) {
                drawAll(hand, groups[group]);
            }
            String where = ", " + melds + " melds";
            check.same("12: no pair" + where, hand.isComplete(), false);
            check.same("15: no pair" + where, hand.missing(), 2);
            hand.draw(33);
            check.same("12: half a pair" + where, hand.isComplete(), false);
            check.same("15: half a pair" + where, hand.missing(), 1);
            check.same("13: for the pair" + where, hand.waits() >> 33 & 1, 1L);
            hand.draw(33);
            check.same("12: a pair" + where, hand.isComplete(), true);
            check.same("15: a pair" + where, hand.missing(), 0);
            hand.drop(33);
            hand.draw(30);
            check.same("12: two kinds" + where, hand.isComplete(), false);
        }
    }

    /** "A hand of the size 14 is complete": a smaller one is not, though it has groups and a pair. */
    private void completeInSize14Alone() {
        check.same("12: a new hand", new TileHand().isComplete(), false);
        check.same("12: a pair", holding(0, 0).isComplete(), false);
        check.same("12: a group and a pair", holding(0, 0, 0, 1, 1).isComplete(), false);
        check.same("12: three groups and a pair", holding(0, 0, 0, 4, 4, 4, 9, 9, 9, 33, 33).isComplete(), false);
        check.same("12: six pairs", holding(0, 0, 4, 4, 9, 9, 12, 12, 20, 20, 33, 33).isComplete(), false);
        TileHand melded = holding(0, 0, 0, 33, 33);
        melded.meld(1, 0, true);
        check.same("12: a meld and a pair", melded.isComplete(), false);
        TileHand three = new TileHand();
        for (int kind = 0; kind < 3; kind++) {
            lay(three, 2, kind, true);
        }
        drawAll(three, 33, 33);
        check.same("12: three FOURs and a pair", three.isComplete(), false);
    }

    /** "SEVEN PAIRS, of seven different kinds": four of a kind are one pair. */
    private void sevenPairs() {
        TileHand hand = holding(0, 0, 0, 0, 12, 12, 20, 20, 27, 27, 28, 28, 33, 33);
        check.same("12: six kinds", hand.isComplete(), false);
        check.same("15: six kinds", hand.missing(), 2);
        hand.drop(33);
        check.same("13: six kinds", hand.waits(), 0L);
        check.same("15: six kinds, one of them once", hand.missing(), 3);
        TileHand three = holding(0, 0, 0, 12, 12, 20, 20, 27, 27, 28, 28, 33, 33);
        check.same("13: not for a fourth", three.waits(), 0L);
        check.same("15: a seventh kind", three.missing(), 2);
        TileHand seven = holding(0, 0, 8, 8, 9, 9, 26, 26, 27, 27, 32, 32, 33, 33);
        check.same("12: seven kinds, the first and the last", seven.isComplete(), true);
        seven.drop(0);
        check.same("13: for the seventh", seven.waits(), set(0));
        seven.draw(1);
        check.same("12: six pairs and two kinds", seven.isComplete(), false);
        check.same("15: six pairs and two kinds", seven.missing(), 1);
    }

    /** "ORPHANS: one tile of each end and honour (there are 13 such kinds), and one more of one of them". */
    private void orphans() {
        for (int kind = 0; kind < 34; kind++) {
            TileHand hand = holding(ORPHANS);
            hand.draw(kind);
            check.same("12: one more of " + kind, hand.isComplete(), isEndOrHonour(kind));
            check.same("15: one more of " + kind, hand.missing(), isEndOrHonour(kind) ? 0 : 1);
        }
        for (int without : ORPHANS) {
            int twin = without == 33 ? 32 : 33;
            TileHand hand = orphansWithout(without);
            check.same("15: twelve without " + without, hand.missing(), 2);
            hand.draw(twin);
            check.same("13: twelve and one more", hand.waits(), set(without));
            check.same("15: twelve and one more", hand.missing(), 1);
            hand.draw(without == 0 ? 8 : 0);
            check.same("12: twelve and two more, without " + without, hand.isComplete(), false);
            check.same("15: twelve and two more, without " + without, hand.missing(), 1);
        }
        TileHand other = orphansWithout(18);
        drawAll(other, 12, 12);
        check.same("15: twelve, and two that are neither ends nor honours", other.missing(), 2);
    }

    private static TileHand orphansWithout(int without) {
        TileHand hand = new TileHand();
        for (int kind : ORPHANS) {
            if (kind != without) {
                hand.draw(kind);
            }
        }
        return hand;
    }

    /** "0 if its size is not 13": whatever it holds, in all the other sizes. */
    private void waitsInSize13Alone() {
        int[] kinds = {33, 33, 0, 1, 2, 9, 10, 11, 18, 19, 20, 31, 31, 31};
        TileHand hand = new TileHand();
        for (int kind : kinds) {
            long due = hand.size() == 13 ? set(31, 33) : 0L;
            check.same("13: size " + hand.size(), hand.waits(), due);
            check.same("14: size " + hand.size(), hand.outs(), due == 0 ? 0 : 4 - 2 + 4 - 2);
            check.same("21: size " + hand.size(), hand.meanPoints(false) > 0, due != 0);
            hand.draw(kind);
        }
        check.same("13: complete", hand.waits(), 0L);
        check.same("14: complete", hand.outs(), 0);
        check.same("21: complete", hand.meanPoints(true), 0.0);
        TileHand melded = new TileHand();
        for (int meld = 0; meld < 4; meld++) {
            check.same("13: melds alone", melded.waits(), 0L);
            lay(melded, 2, meld, true);
        }
        check.same("13: four FOURs, sixteen tiles", melded.waits(), 0L);
        melded.draw(9);
        check.same("13: and one", melded.waits(), set(9));
        melded.draw(10);
        check.same("13: and two", melded.waits(), 0L);
    }

    /** "if it has, with its melds, less than four tiles of it": of three it waits for the fourth, left or not. */
    private void waitsForAFourth() {
        TileHand held = holding(0, 0, 0, 1, 2, 9, 9, 9, 18, 19, 20, 33, 33);
        check.same("13: three held", held.waits(), set(0, 3, 33));
        TileHand melded = holding(1, 2, 9, 9, 9, 33, 33);
        lay(melded, 1, 0, true);
        lay(melded, 0, 18, true);
        check.same("13: three melded", melded.waits(), set(0, 3));
        TileHand rows = holding(1, 2, 9, 9, 9, 33, 33);
        lay(rows, 0, 0, true);
        lay(rows, 0, 0, true);
        check.same("13: two melded in ROWs", rows.waits(), set(0, 3));
        seeTimes(rows, 0, 2);
        seeTimes(rows, 3, 4);
        check.same("13: all of them seen", rows.waits(), set(0, 3));
        check.same("14: all of them seen", rows.outs(), 0);
        check.same("21: 0 if none are left", rows.meanPoints(true), 0.0);
    }

    /** With four of it, in hand and melds together, it does not wait for a kind. */
    private void waitsForNoFifth() {
        TileHand held = holding(0, 0, 0, 0, 1, 2, 9, 9, 9, 18, 18, 18, 33);
        check.same("13: four held", held.waits(), set(33));
        TileHand both = holding(0, 1, 2, 9, 9, 9, 33, 33, 33, 5);
        lay(both, 1, 5, true);
        check.same("13: three melded, one held", both.waits(), 0L);
        check.same("15: three melded, one held", both.missing(), 2);
        TileHand row = holding(5, 5, 5, 6, 7, 27, 27, 27, 28, 28);
        lay(row, 0, 4, true);
        check.same("13: one melded in a ROW, three held", row.waits(), set(8, 28));
        TileHand four = holding(1, 2, 9, 9, 9, 33, 33);
        lay(four, 2, 0, true);
        lay(four, 0, 18, true);
        check.same("13: four melded", four.waits(), set(3));
        check.same("14: four melded", four.outs(), 4);
    }

    /** "how many tiles of the kinds for which the hand waits are left": neither held, nor melded, nor seen. */
    private void outs() {
        TileHand hand = holding(1, 2, 9, 9, 9, 33, 33);
        lay(hand, 0, 3, true);
        lay(hand, 0, 18, true);
        check.same("14: four of 0, three of 3", hand.outs(), 7);
        for (int i = 6; i >= 3; i--) {
            hand.see(0);
            check.same("14: less those seen", hand.outs(), i);
        }
        hand.see(33);
        check.same("14: others do not matter", hand.outs(), 3);
        hand.see(3);
        hand.see(3);
        check.same("14: the last one", hand.outs(), 1);
        hand.see(3);
        check.same("14: none", hand.outs(), 0);
    }

    /** The number of missing tiles of an empty hand, with m melds, and of a complete one. */
    private void missingOfNothingAndAll() {
        TileHand hand = new TileHand();
        check.same("15: empty", hand.missing(), 14);
        for (int meld = 1; meld <= 4; meld++) {
            lay(hand, meld % 3, 9 * (meld % 2) + 4 * (meld / 2), true);
            check.same("15: " + meld + " melds and no tiles", hand.missing(), 14 - 3 * meld);
        }
        hand.draw(32);
        check.same("15: four melds and one tile", hand.missing(), 1);
        hand.draw(32);
        check.same("15: four melds and a pair", hand.missing(), 0);
        for (int kind = 0; kind < 34; kind++) {
            check.same("15: " + kind + " alone", holding(kind).missing(), 13);
        }
    }

    /** "tiles of it that are not in the hand (of the same kind, one for each)". */
    private void missingOnceForEach() {
        check.same("15: of four honours three", holding(33, 33, 33, 33).missing(), 11);
        check.same("15: of four ends four", holding(0, 0, 0, 0, 1, 2).missing(), 8);
        TileHand rows = holding(0, 0, 1, 1, 2, 2, 33, 33);
        lay(rows, 1, 29, true);
        lay(rows, 1, 30, true);
        check.same("15: the same ROW twice", rows.missing(), 0);
        rows.drop(1);
        check.same("15: once, and without its midst", rows.missing(), 1);
        rows.drop(1);
        check.same("15: twice without its midst", rows.missing(), 2);
        TileHand four = new TileHand();
        for (int kind = 24; kind <= 26; kind++) {
            drawAll(four, kind, kind, kind, kind);
        }
        check.same("15: four times, and no pair", four.missing(), 2);
        check.same("15: the last kind in the last ROW", besideThrees(new int[] {26}).missing(), 2);
    }

    /** "If there are no melds, there are two more sorts of arrangements": with a meld there are not. */
    private void twoSortsWithoutMelds() {
        TileHand pairs = holding(0, 0, 4, 4, 12, 12, 20, 20, 27, 27);
        check.same("15: five pairs of SEVEN", pairs.missing(), 4);
        lay(pairs, 2, 33, false);
        check.same("15: a pair and three THREEs", pairs.missing(), 11 - 8);
        drawAll(pairs, 29);
        check.same("15: no sixth pair", pairs.missing(), 11 - 8);
        TileHand orphans = holding(0, 8, 9, 17, 18, 26, 27, 28, 29, 30, 31);
        check.same("15: eleven of the ORPHANS", orphans.missing(), 3);
        TileHand melded = holding(0, 8, 9, 17, 18, 26, 27, 28, 29, 30);
        lay(melded, 1, 31, false);
        check.same("15: one of each group and of the pair", melded.missing(), 11 - 4);
        check.same("13: none of the ORPHANS", melded.waits(), 0L);
    }

    /** "it has, with the melds, at most four tiles of each kind". */
    private void missingWithAtMostFour() {
        TileHand hand = holding(4, 6, 33, 33);
        lay(hand, 1, 29, true);
        lay(hand, 1, 30, true);
        lay(hand, 1, 5, true);
        check.same("15: the fourth in a ROW", hand.missing(), 1);
        check.same("13: the fourth in a ROW", hand.waits(), set(5));
        drawAll(hand, 5);
        check.same("12: the fourth in a ROW", hand.isComplete(), true);
        hand.drop(4);
        hand.drop(6);
        hand.grow(5);
        drawAll(hand, 4, 6);
        check.same("15: no fifth in a ROW", hand.missing(), 2);
        TileHand pair = new TileHand();
        for (int kind = 0; kind < 4; kind++) {
            lay(pair, 0, 0, true);
        }
        drawAll(pair, 8);
        check.same("15: a pair of another kind", pair.missing(), 1);
        TileHand rows = new TileHand();
        lay(rows, 0, 3, true);
        lay(rows, 0, 3, true);
        drawAll(rows, 3, 3, 3 + 9, 3 + 9);
        check.same("15: the third and the fourth as a pair", rows.missing(), 8 - 4);
        drawAll(rows, 9, 9, 9, 32);
        check.same("15: no THREE beyond four", rows.missing(), 1);
    }

    /** "the kind of a tile in the hand"; "of several the one with the smallest number". */
    private void advice() {
        for (int kind = 0; kind < 34; kind++) {
            check.same("16: the only tile", holding(kind).advice(), kind);
        }
        TileHand melded = holding(33);
        lay(melded, 1, 0, true);
        check.same("16: not of a meld", melded.advice(), 33);
        TileHand seen = holding(32);
        seeTimes(seen, 0, 4);
        check.same("16: not one that was seen", seen.advice(), 32);
        check.same("16: the first of two", holding(0, 33).advice(), 0);
        TileHand full = holding(0, 1, 2, 9, 9, 9, 18, 19, 20, 33, 33, 29, 30, 31);
        check.same("16: the first one that is not needed", full.advice(), 29);
        TileHand pair = holding(8, 33);
        lay(pair, 1, 0, true);
        lay(pair, 1, 1, true);
        lay(pair, 1, 2, true);
        lay(pair, 1, 3, true);
        check.same("16: four melds and two kinds", pair.advice(), 8);
        pair.drop(8);
        pair.draw(33);
        check.same("16: four melds and a pair", pair.advice(), 33);
    }

    /** Winds 27 to 30, a base from 1 to 100, a limit from 1 to 13: all of them are taken. */
    private void settings() {
        TileHand hand = new TileHand();
        int before = 27;
        for (int seat = 27; seat <= 30; seat++) {
            for (int round = 27; round <= 30; round++) {
                check.same("17: seat " + seat + ", round " + round, hand.setWinds(seat, round), before);
                before = seat;
            }
        }
        check.same("17: the round's wind is told by nothing but the score", hand.setWinds(27, 27), 30);
        int limit = 8;
        for (int next = 1; next <= 13; next++) {
            check.same("18: limit " + next, hand.setPoints(1 + next % 2 * 99, next), limit);
            limit = next;
        }
        TileHand based = holding(0, 1, 2, 9, 9, 9, 24, 25, 26, 14, 14, 14, 5, 5);
        for (int base = 1; base <= 100; base++) {
            based.setPoints(base, 1);
            check.same("20: base " + base, based.points(false), 2 * base);
        }
    }

    /** "over all tiles of these kinds that are left": each tile counts, not each kind; "0 if none are left". */
    private void meanPoints() {
        TileHand hand = holding(1, 2, 3, 10, 10, 10, 21, 22, 23, 14, 14, 31, 31);
        check.same("13: a pair of each", hand.waits(), set(14, 31));
        check.same("21: two of each", hand.meanPoints(false), (2 * 2 + 2 * 4) / 4.0);
        hand.see(14);
        check.same("21: one and two", hand.meanPoints(false), (2 + 2 * 4) / 3.0);
        hand.see(14);
        check.same("21: those of 31 alone", hand.meanPoints(false), 4.0);
        hand.see(31);
        check.same("21: the last one", hand.meanPoints(true), 8.0);
        hand.see(31);
        check.same("21: none are left", hand.meanPoints(false), 0.0);
        check.same("21: none are left for SELF", hand.meanPoints(true), 0.0);
        check.same("13: but it waits", hand.waits(), set(14, 31));
        check.same("21: a new hand", new TileHand().meanPoints(false), 0.0);
        TileHand most = holding(ORPHANS);
        most.setPoints(100, 13);
        check.same("21: the most", most.meanPoints(true), 819200.0);
        TileHand nothing = holding(0, 2, 4, 6, 8, 10, 12, 14, 16, 18, 20, 22, 24);
        check.same("21: waits for nothing", nothing.meanPoints(true), 0.0);
    }

    private static BigInteger then(BigInteger d, long x) {
        return d.multiply(BigInteger.valueOf(31)).add(BigInteger.valueOf(x));
    }

    private static BigInteger digestOfKinds(TileHand hand) {
        BigInteger d = BigInteger.valueOf(271);
        for (int kind = 0; kind < 34; kind++) {
            d = then(then(d, hand.count(kind, false)), hand.count(kind, true));
        }
        return d;
    }

    /** "which wraps around as a 64-bit integer": the number itself is longer than that by far. */
    private void digestWraps() {
        TileHand hand = holding(0, 0, 0, 0, 1, 1, 1, 1, 30, 30, 30, 32, 32);
        seeTimes(hand, 33, 4);
        BigInteger d = digestOfKinds(hand);
        for (long x : new long[] {0, 27, 27, 1, 8, set(2), 1}) {
            d = then(d, x);
        }
        check.same("22: it does wrap", d.bitLength() > 300, true);
        check.same("22: its last 64 bits", hand.digest(), d.longValue());
        int negative = 0;
        for (int kind = 0; kind < 34; kind++) {
            negative += holding(kind).digest() < 0 ? 1 : 0;
        }
        check.same("22: some are below 0, some are not", negative > 0 && negative < 34, true);
    }

    /** "the number of melds, and for each of them what meldAt() tells, in its order"; waits() beyond 2^32. */
    private void digestOfFourMelds() {
        TileHand hand = new TileHand();
        lay(hand, 1, 20, true);
        lay(hand, 0, 0, false);
        lay(hand, 2, 31, false);
        lay(hand, 0, 6, true);
        hand.draw(33);
        hand.see(33);
        hand.setWinds(30, 28);
        hand.setPoints(100, 13);
        BigInteger d = digestOfKinds(hand);
        long[] rest = {4, 1, 20, 1, 0, 0, 0, 2, 31, 0, 0, 6, 1, 30, 28, 100, 13, 8589934592L, 1};
        for (long x : rest) {
            d = then(d, x);
        }
        check.same("22: four melds", hand.digest(), d.longValue());
        hand.draw(33);
        d = digestOfKinds(hand);
        rest[rest.length - 2] = 0;
        rest[rest.length - 1] = 0;
        for (long x : rest) {
            d = then(d, x);
        }
        check.same("22: four melds, complete", hand.digest(), d.longValue());
    }
}
