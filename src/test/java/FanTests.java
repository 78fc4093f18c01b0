/**
 * Sentence by sentence: what a complete hand is scored for, at the edges of
 * each sentence; the sums that are due were worked out by hand.
 */
final class FanTests extends HandTests {
    /** Two ROWs and two THREEs, of three suits, without ends and honours: 1 for that, and 1 if they are closed. */
    private static final int[] PLAIN = {1, 2, 3, 10, 10, 10, 12, 13, 14, 22, 22, 22};
    /** The greatest limit: so the points tell all fans up to it. */
    private static final int MOST = 13;

    FanTests(Check check) {
        super(check);
    }

    static void all(Check check) {
        FanTests tests = new FanTests(check);
        tests.self();
        tests.openMelds();
        tests.neitherEndsNorHonours();
        tests.endsAndHonoursInMelds();
        tests.honoursAlone();
        tests.oneSuit();
        tests.suitsSideBySide();
        tests.sevenPairs();
        tests.orphans();
        tests.rowsAndPair();
        tests.notAllRows();
        tests.noneIsRow();
        tests.threesOfHonours();
        tests.foursInMelds();
        tests.sameRows();
        tests.sameRowsInMelds();
        tests.greatestOverGroups();
        tests.greatestOverPairs();
        tests.limits();
        tests.newHand();
    }

    private void fans(String what, TileHand hand, int due) {
        check.same("19: " + what, hand.fans(false), due);
        check.same("19: " + what + ", by SELF", hand.fans(true), due + 1);
        hand.setPoints(1, MOST);
        check.same("20: " + what, hand.points(false), 1 << Math.min(due, MOST));
    }

    private static TileHand with(int[] groups, int... others) {
        TileHand hand = holding(groups);
        drawAll(hand, others);
        return hand;
    }

    /** "1 for SELF: the last tile was drawn by itself (this is told)": each call tells it anew. */
    private void self() {
        TileHand hand = with(PLAIN, 33, 33);
        for (int i = 0; i < 2; i++) {
            check.same("19: by itself", hand.fans(true), 2);
            check.same("19: by others", hand.fans(false), 1);
            check.same("20: by itself", hand.points(true), 4);
            check.same("20: by others", hand.points(false), 2);
        }
        hand.meld(1, 10, true);
        check.same("19: by itself, with an open meld", hand.fans(true), 1);
    }

    /** "1 if no meld is open": none of all four. */
    private void openMelds() {
        for (int open = 0; open < 16; open++) {
            TileHand hand = new TileHand();
            lay(hand, 0, 1, (open & 1) != 0);
            lay(hand, 1, 10, (open & 2) != 0);
            lay(hand, 0, 12, (open & 4) != 0);
            lay(hand, 1, 22, (open & 8) != 0);
            drawAll(hand, 33, 33);
            fans("four melds, open are " + open, hand, open == 0 ? 1 : 0);
        }
        TileHand grown = holding(33, 33);
        lay(grown, 0, 1, false);
        lay(grown, 1, 10, true);
        lay(grown, 0, 12, false);
        lay(grown, 1, 22, false);
        grown.drop(33);
        grown.draw(10);
        grown.grow(10);
        grown.draw(33);
        fans("an open THREE that has grown", grown, 1);
        grown.begin();
        drawAll(grown, PLAIN);
        drawAll(grown, 33, 33);
        fans("no meld is open behind begin", grown, 1);
        grown.meld(0, 1, false);
        grown.meld(1, 10, false);
        fans("nor are those laid closed then", grown, 1);
    }

    /** "1 if there are neither ends nor honours": each kind as the pair. */
    private void neitherEndsNorHonours() {
        for (int kind = 0; kind < 34; kind++) {
            if (kind != 10 && kind != 22) {
                fans("a pair of " + kind, with(PLAIN, kind, kind), isEndOrHonour(kind) ? 1 : 2);
            }
        }
        fans("ROWs from 1 and to 7", holding(1, 2, 3, 5, 6, 7, 10, 11, 12, 23, 24, 25, 16, 16), 1 + 1 + 1);
        fans("a ROW from 0", holding(0, 1, 2, 5, 6, 7, 10, 11, 12, 23, 24, 25, 16, 16), 1 + 1);
        fans("a ROW to 8", holding(1, 2, 3, 6, 7, 8, 10, 11, 12, 23, 24, 25, 16, 16), 1 + 1);
        fans("a ROW from 9", holding(1, 2, 3, 5, 6, 7, 9, 10, 11, 23, 24, 25, 16, 16), 1 + 1);
        fans("a ROW to 17", holding(1, 2, 3, 5, 6, 7, 15, 16, 17, 23, 24, 25, 10, 10), 1 + 1);
        fans("a ROW from 18", holding(1, 2, 3, 5, 6, 7, 10, 11, 12, 18, 19, 20, 16, 16), 1 + 1);
        fans("a ROW to 26", holding(1, 2, 3, 5, 6, 7, 10, 11, 12, 24, 25, 26, 16, 16), 1 + 1);
    }

    /** "in hand or melds". */
    private void endsAndHonoursInMelds() {
        for (int kind = 0; kind < 34; kind++) {
            for (int sort = 1; sort <= 2; sort++) {
                if (kind == 1 || kind == 2 || kind == 3 || kind == 10 || kind == 22 || kind == 5) {
                    continue;
                }
                TileHand hand = holding(1, 2, 3, 10, 10, 10, 22, 22, 22);
                lay(hand, sort, kind, true);
                hand.setWinds(27, 28);
                drawAll(hand, 5, 5);
                int honour = kind == 27 || kind == 28 || kind > 30 ? 1 : 0;
                fans("sort " + sort + " of " + kind, hand, (isEndOrHonour(kind) ? 0 : 1) + honour + sort - 1);
            }
        }
        for (int suit : SUITS) {
            for (int first = suit; first <= suit + 6; first++) {
                TileHand hand = holding(4, 4, 4, 13, 13, 13, 22, 22, 22);
                lay(hand, 0, first, true);
                drawAll(hand, suit == 0 ? 15 : 6, suit == 0 ? 15 : 6);
                boolean hasEnd = first == suit || first == suit + 6;
                fans("a ROW from " + first + " melded", hand, hasEnd ? 0 : 1);
            }
        }
    }

    /** "6 if there are honours alone": not if there is any other tile. */
    private void honoursAlone() {
        int[] honours = {27, 27, 27, 28, 28, 28, 31, 31, 31, 32, 32, 32};
        TileHand alone = with(honours, 30, 30);
        alone.setWinds(29, 29);
        fans("honours alone", alone, 6 + 1 + 2 + 2);
        TileHand pair = with(honours, 26, 26);
        pair.setWinds(29, 29);
        fans("honours and a pair of a suit", pair, 3 + 1 + 2 + 2);
        TileHand melds = new TileHand();
        lay(melds, 1, 27, true);
        lay(melds, 1, 28, true);
        lay(melds, 1, 29, true);
        lay(melds, 2, 30, true);
        drawAll(melds, 33, 33);
        melds.setWinds(27, 28);
        fans("honours alone in melds", melds, 6 + 2 + 2 + 1);
        TileHand end = new TileHand();
        lay(end, 1, 27, true);
        lay(end, 1, 28, true);
        lay(end, 1, 29, true);
        lay(end, 1, 26, true);
        drawAll(end, 33, 33);
        end.setWinds(30, 30);
        fans("honours and a melded THREE of a suit", end, 3 + 2);
    }

    /** "3 if all tiles are of one suit or honours, and there are some of both; 6 if all are of one suit". */
    private void oneSuit() {
        for (int suit : SUITS) {
            int[] groups = {suit, suit, suit, suit, suit + 1, suit + 2, suit + 3, suit + 4, suit + 5, suit + 6,
                suit + 7, suit + 8};
            fans("all of the suit " + suit, with(groups, suit + 8, suit + 8), 6 + 1);
            for (int honour = 27; honour <= 33; honour++) {
                fans("the suit " + suit + " and " + honour, with(groups, honour, honour), 3 + 1);
            }
            for (int other = 0; other < 27; other++) {
                if (other / 9 != suit / 9) {
                    fans("the suit " + suit + " and " + other, with(groups, other, other), 1);
                }
            }
        }
    }

    /** Melds count for it, and the first and the last kind of a suit belong to it alone. */
    private void suitsSideBySide() {
        for (int suit : SUITS) {
            for (int kind = 0; kind < 34; kind++) {
                if (kind >= suit && kind < suit + 8) {
                    continue;
                }
                TileHand hand = holding(suit + 1, suit + 2, suit + 3, suit + 4, suit + 4, suit + 4);
                drawAll(hand, suit + 5, suit + 6, suit + 7, suit, suit);
                hand.setWinds(30, 30);
                lay(hand, 1, kind, true);
                int dragon = kind > 30 ? 1 : 0;
                int wind = kind == 30 ? 2 : 0;
                int due = kind == suit + 8 ? 6 : kind > 26 ? 3 + dragon + wind : 0;
                fans("the suit " + suit + " and a THREE of " + kind, hand, due);
            }
        }
    }

    /** "2 for SEVEN PAIRS": what is told of groups does not count for it. */
    private void sevenPairs() {
        fans("SEVEN PAIRS", holding(0, 0, 3, 3, 9, 9, 12, 12, 20, 20, 27, 27, 33, 33), 2 + 1);
        fans("SEVEN PAIRS of honours", holding(27, 27, 28, 28, 29, 29, 30, 30, 31, 31, 32, 32, 33, 33), 2 + 1 + 6);
        fans("SEVEN PAIRS of ends and honours", holding(0, 0, 8, 8, 9, 9, 17, 17, 18, 18, 26, 26, 30, 30), 2 + 1);
        fans("SEVEN PAIRS without ends", holding(1, 1, 3, 3, 10, 10, 12, 12, 20, 20, 22, 22, 24, 24), 2 + 1 + 1);
        fans("SEVEN PAIRS of a suit", holding(9, 9, 10, 10, 12, 12, 13, 13, 14, 14, 16, 16, 17, 17), 2 + 1 + 6);
        fans("SEVEN PAIRS of a suit and honours",
                holding(18, 18, 19, 19, 20, 20, 21, 21, 24, 24, 27, 27, 33, 33), 2 + 1 + 3);
    }

    /** "13 for ORPHANS", whichever is there twice. */
    private void orphans() {
        for (int twin : ORPHANS) {
            TileHand hand = with(ORPHANS, twin);
            hand.setWinds(29, 30);
            fans("ORPHANS, twice " + twin, hand, 13 + 1);
            check.same("20: ORPHANS to the limit of 13", hand.points(true), 8192);
        }
    }

    /** "the pair is neither of dragons, nor of the seat's wind, nor of the round's wind". */
    private void rowsAndPair() {
        int[] rows = {0, 1, 2, 12, 13, 14, 15, 16, 17, 23, 24, 25};
        for (int seat = 27; seat <= 30; seat++) {
            for (int round = 27; round <= 30; round++) {
                for (int pair = 26; pair <= 33; pair++) {
                    boolean isWorth = pair > 30 || pair == seat || pair == round;
                    TileHand hand = with(rows, pair, pair);
                    hand.setWinds(seat, round);
                    String what = "ROWs, a pair of " + pair + ", winds " + seat + ", " + round;
                    fans(what, hand, 1 + (isWorth ? 0 : 1));
                    hand.meld(0, 12, false);
                    hand.meld(0, 0, true);
                    fans(what + ", two melded", hand, isWorth ? 0 : 1);
                    hand.meld(0, 23, true);
                    hand.meld(0, 15, true);
                    fans(what + ", all melded", hand, isWorth ? 0 : 1);
                }
            }
        }
    }

    /** "if all groups and melds are ROWs": one of them is none. */
    private void notAllRows() {
        int[] three = {0, 1, 2, 12, 13, 14, 23, 24, 25};
        fans("three ROWs and a THREE", with(three, 16, 16, 16, 5, 5), 1);
        for (int sort = 0; sort <= 2; sort++) {
            TileHand hand = holding(three);
            lay(hand, sort, 15, true);
            drawAll(hand, 5, 5);
            fans("three ROWs, and a meld of sort " + sort, hand, sort == 1 ? 0 : 1);
        }
        TileHand melded = holding(16, 16, 16, 5, 5);
        lay(melded, 0, 0, true);
        lay(melded, 0, 12, true);
        lay(melded, 0, 23, true);
        fans("three melded ROWs, and a THREE", melded, 0);
    }

    /** "2 if none of them is a ROW": groups and melds. */
    private void noneIsRow() {
        int[] threes = {0, 0, 0, 12, 12, 12, 24, 24, 24};
        fans("four THREEs", with(threes, 8, 8, 8, 33, 33), 2 + 1);
        for (int sort = 0; sort <= 2; sort++) {
            TileHand hand = holding(threes);
            lay(hand, sort, 15, true);
            drawAll(hand, 5, 5);
            fans("three THREEs, and a meld of sort " + sort, hand, sort == 0 ? 0 : 1 + sort);
        }
        TileHand row = holding(3, 4, 5, 5, 5);
        for (int kind : new int[] {0, 12, 24}) {
            lay(row, 1, kind, true);
        }
        fans("three melded THREEs, and a ROW", row, 0);
    }

    /** "1 for each THREE or FOUR of dragons, 1 for one of the seat's wind, 1 for one of the round's wind". */
    private void threesOfHonours() {
        for (int seat = 27; seat <= 30; seat++) {
            for (int round = 27; round <= 30; round++) {
                for (int kind = 26; kind <= 33; kind++) {
                    int due = (kind > 30 ? 1 : 0) + (kind == seat ? 1 : 0) + (kind == round ? 1 : 0);
                    threeOf(kind, seat, round, due);
                }
            }
        }
        fans("three dragons", holding(31, 31, 31, 32, 32, 32, 33, 33, 33, 0, 1, 2, 20, 20), 3 + 1);
    }

    private void threeOf(int kind, int seat, int round, int due) {
        int[] others = {0, 1, 2, 12, 12, 12, 13, 14, 15};
        String what = kind + ", winds " + seat + ", " + round;
        TileHand hand = with(others, kind, kind, kind, 5, 5);
        hand.setWinds(seat, round);
        fans("a THREE of " + what, hand, due + 1);
        for (int sort = 1; sort <= 2; sort++) {
            TileHand melded = holding(others);
            lay(melded, sort, kind, false);
            drawAll(melded, 5, 5);
            melded.setWinds(seat, round);
            fans("a meld of sort " + sort + " of " + what, melded, due + sort);
        }
    }

    /** "1 for each FOUR": none to four of them; four tiles that were not laid are none. */
    private void foursInMelds() {
        int[] kinds = {0, 12, 22, 8};
        for (int fours = 0; fours <= 4; fours++) {
            TileHand hand = new TileHand();
            for (int meld = 0; meld < 4; meld++) {
                lay(hand, meld < fours ? 2 : 1, kinds[meld], meld == 3);
            }
            drawAll(hand, 5, 5);
            fans(fours + " FOURs", hand, fours + 2);
        }
        TileHand grown = new TileHand();
        for (int kind : kinds) {
            lay(grown, 1, kind, false);
        }
        for (int kind : kinds) {
            grown.draw(kind);
            grown.grow(kind);
        }
        drawAll(grown, 5, 5);
        fans("four that have grown", grown, 4 + 2 + 1);
        fans("four tiles in a THREE and a ROW",
                holding(1, 1, 1, 1, 2, 3, 9, 9, 9, 23, 24, 25, 32, 32), 1);
    }

    /** "1 for each two groups in the hand that are the same ROW (three or four of them count once)". */
    private void sameRows() {
        fans("one", holding(0, 1, 2, 12, 13, 14, 20, 20, 20, 24, 24, 24, 32, 32), 1);
        fans("two", holding(0, 1, 2, 0, 1, 2, 20, 20, 20, 24, 24, 24, 32, 32), 1 + 1);
        fans("two, the last ROW of a suit", holding(24, 25, 26, 24, 25, 26, 10, 10, 10, 3, 3, 3, 32, 32), 1 + 1);
        fans("two and two", holding(0, 1, 2, 0, 1, 2, 12, 13, 14, 12, 13, 14, 32, 32), 2 + 1);
        fans("two and another", holding(0, 1, 2, 0, 1, 2, 12, 13, 14, 24, 24, 24, 32, 32), 1 + 1);
        fans("three and another", holding(0, 1, 2, 0, 1, 2, 0, 1, 2, 12, 13, 14, 32, 32), 1 + 1);
        fans("four", holding(0, 1, 2, 0, 1, 2, 0, 1, 2, 0, 1, 2, 32, 32), 3 + 1 + 1);
        fans("the same values of other suits", holding(0, 1, 2, 9, 10, 11, 18, 19, 20, 24, 24, 24, 32, 32), 1);
        fans("ROWs that overlap", holding(0, 1, 2, 1, 2, 3, 20, 20, 20, 24, 24, 24, 32, 32), 1);
    }

    /** "groups in the hand": a ROW among the melds is none. */
    private void sameRowsInMelds() {
        for (int melded = 0; melded <= 4; melded++) {
            TileHand hand = new TileHand();
            for (int meld = 0; meld < melded; meld++) {
                lay(hand, 0, 1, true);
            }
            for (int group = melded; group < 4; group++) {
                drawAll(hand, 1, 2, 3);
            }
            drawAll(hand, 23, 23);
            int twins = 4 - melded >= 2 ? 1 : 0;
            fans("four the same ROW, melded are " + melded, hand, (melded == 0 ? 1 : 0) + 1 + 1 + twins);
        }
        TileHand both = new TileHand();
        lay(both, 0, 0, true);
        lay(both, 0, 12, true);
        drawAll(both, 0, 1, 2, 12, 13, 14, 32, 32);
        fans("one in the hand and one melded, twice", both, 0);
    }

    /** "so that the sum of these is greatest": over the ways to make groups of the same tiles. */
    private void greatestOverGroups() {
        fans("THREEs rather than ROWs", holding(0, 1, 2, 0, 1, 2, 0, 1, 2, 20, 20, 20, 12, 12), 2 + 1);
        TileHand rows = holding(0, 1, 2, 0, 1, 2, 0, 1, 2, 12, 12);
        lay(rows, 0, 20, true);
        fans("ROWs rather than THREEs", rows, 1 + 1);
        fans("ROWs rather than SEVEN PAIRS", holding(0, 0, 1, 1, 2, 2, 12, 12, 13, 13, 14, 14, 22, 22), 2 + 1 + 1);
        fans("as many for ROWs as for SEVEN PAIRS",
                holding(0, 0, 1, 1, 2, 2, 12, 12, 13, 13, 14, 14, 33, 33), 2 + 1);
        fans("ROWs four kinds long, twice", holding(1, 1, 2, 2, 3, 3, 4, 4, 5, 5, 6, 6, 16, 16), 2 + 1 + 1 + 1);
    }

    /** Over the kinds of the pair, too, be it the first one or the last one that brings more. */
    private void greatestOverPairs() {
        // A pair of 5 brings nothing; a pair of 8 leaves 4 5 6, 5 5 5, and 6 7 8 twice.
        fans("a pair of 8 rather than of 5", holding(4, 5, 5, 5, 5, 6, 6, 6, 7, 7, 8, 8, 8, 8), 6 + 1 + 1);
        // A pair of 4 leaves 4 5 6 twice, 7 7 7, and 8 8 8; a pair of 7 brings nothing.
        fans("a pair of 4 rather than of 7", holding(4, 4, 4, 4, 5, 5, 6, 6, 7, 7, 7, 8, 8, 8), 6 + 1 + 1);
        // A pair of 5 leaves four THREEs; a pair of 8 leaves 5 6 7 twice at best.
        fans("a pair of 5 rather than of 8", holding(4, 4, 4, 5, 5, 6, 6, 6, 7, 7, 7, 8, 8, 8), 6 + 1 + 2);
    }

    /** "the base, doubled as often as there are fans, but not more often than the limit says". */
    private void limits() {
        TileHand none = new TileHand();
        lay(none, 1, 10, true);
        drawAll(none, 1, 2, 3, 12, 13, 14, 22, 22, 22, 33, 33);
        TileHand three = with(PLAIN, 5, 5);
        for (int limit = 1; limit <= 13; limit++) {
            none.setPoints(7, limit);
            three.setPoints(7, limit);
            TileHand many = with(ORPHANS, 0);
            many.setPoints(7, limit);
            check.same("20: no fans, limit " + limit, none.points(false), 7);
            check.same("20: one fan, limit " + limit, none.points(true), 14);
            check.same("20: two fans, limit " + limit, three.points(false), limit < 2 ? 14 : 28);
            check.same("20: three fans, limit " + limit, three.points(true), 7 * (1 << Math.min(3, limit)));
            check.same("20: fourteen fans, limit " + limit, many.points(false), 7 * (1 << limit));
        }
        TileHand most = with(ORPHANS, 33);
        most.setPoints(100, 13);
        check.same("20: the most points", most.points(true), 819200);
        check.same("19: the limit does not bound the fans", most.fans(true), 15);
    }

    /** "the base is 1, the limit 8", both winds 27: a new hand's points just below the limit, at it, and beyond. */
    private void newHand() {
        int[] suit = {0, 0, 0, 0, 1, 2, 3, 4, 5, 6, 7, 8, 8, 8};
        check.same("1: seven fans", holding(suit).points(false), 128);
        check.same("1: eight fans", holding(suit).points(true), 256);
        int[] more = {1, 1, 1, 1, 2, 3, 3, 4, 5, 5, 6, 7, 7, 7};
        check.same("1: more fans", holding(more).fans(true) > 8, true);
        check.same("1: not more points", holding(more).points(true), 256);
        TileHand none = new TileHand();
        lay(none, 1, 10, true);
        drawAll(none, 1, 2, 3, 12, 13, 14, 22, 22, 22, 33, 33);
        check.same("1: the base alone", none.points(false), 1);
        int[] others = {0, 1, 2, 12, 12, 12, 13, 14, 15, 5, 5};
        for (int wind = 27; wind <= 30; wind++) {
            check.same("1: a THREE of " + wind, with(others, wind, wind, wind).fans(false), wind == 27 ? 3 : 1);
        }
        TileHand round = with(others, 27, 27, 27);
        check.same("17: the seat's wind was 27", round.setWinds(28, 27), 27);
        check.same("1: the round's wind was 27", round.fans(false), 2);
    }
}
