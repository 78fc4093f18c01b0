/**
 * Sentence by sentence: the calls that the document refuses. Each is made on a
 * hand of its own; the exception must be the one that the document names, and
 * all that can be seen of the hand behind it must be as without the call.
 */
final class RefusalTests extends HandTests {
    private static final int[] NO_SORTS = {-1, 3, 4, Integer.MIN_VALUE, Integer.MAX_VALUE};
    private static final int[] NO_WINDS = {26, 31, -1, 0, 1, 33, 34, Integer.MIN_VALUE, Integer.MAX_VALUE};

    RefusalTests(Check check) {
        super(check);
    }

    static void all(Check check) {
        RefusalTests tests = new RefusalTests(check);
        tests.noSuchKind();
        tests.drawWhenFull();
        tests.drawAndSeeWhenNoneIsLeft();
        tests.drop();
        tests.meldOfNoSort();
        tests.meldOfNoRow();
        tests.meldWithoutTheTiles();
        tests.fifthMeld();
        tests.growWithoutThree();
        tests.growWithoutTile();
        tests.meldAt();
        tests.advice();
        tests.setWinds();
        tests.setPoints();
        tests.fansAndPoints();
        tests.refusedAgainAndAgain();
    }

    private void refused(String what, Class<? extends RuntimeException> want, Calls before, Calls call) {
        TileHand hand = handAfter(before);
        check.refused(what, want, () -> {
            call.on(hand);
            return "no exception";
        });
        check.same(what + ": nothing has changed", Witness.of(hand), Witness.of(handAfter(before)));
    }

    private static Calls drawing(int... kinds) {
        return hand -> drawAll(hand, kinds);
    }

    private static void full(TileHand hand) {
        hand.setWinds(28, 30);
        hand.setPoints(7, 5);
        drawAll(hand, 0, 0, 0, 0, 1, 1, 2, 3, 9, 17, 26, 27, 33, 33);
    }

    private static void fullOfMelds(TileHand hand) {
        lay(hand, 2, 0, true);
        lay(hand, 0, 24, false);
        lay(hand, 1, 33, false);
        lay(hand, 0, 1, true);
        drawAll(hand, 5, 5);
    }

    /** "Throws IndexOutOfBoundsException if there is no such kind": it is named first, so it goes before all else. */
    private void noSuchKind() {
        for (int kind : NO_KINDS) {
            noSuchKindOn("an empty hand, kind " + kind, kind, hand -> { });
            noSuchKindOn("a full hand, kind " + kind, kind, RefusalTests::full);
            noSuchKindOn("a hand full of melds, kind " + kind, kind, RefusalTests::fullOfMelds);
        }
    }

    private void noSuchKindOn(String where, int kind, Calls before) {
        refused("2: draw on " + where, INDEX, before, hand -> hand.draw(kind));
        refused("3: drop on " + where, INDEX, before, hand -> hand.drop(kind));
        refused("4: see on " + where, INDEX, before, hand -> hand.see(kind));
        refused("6: grow on " + where, INDEX, before, hand -> hand.grow(kind));
        refused("9: count of seen ones on " + where, INDEX, before, hand -> hand.count(kind, true));
        refused("9: count on " + where, INDEX, before, hand -> hand.count(kind, false));
        for (int sort = -1; sort <= 3; sort++) {
            int melded = sort;
            refused("5: meld of sort " + sort + " on " + where, INDEX, before, hand -> hand.meld(melded, kind, true));
        }
    }

    /** "Throws IllegalStateException if the size is 14". */
    private void drawWhenFull() {
        refused("2: a fifteenth tile", STATE, RefusalTests::full, hand -> hand.draw(20));
        refused("2: a fifteenth tile of a kind that is held", STATE, RefusalTests::full, hand -> hand.draw(33));
        refused("2: full, and none is left", STATE, RefusalTests::full, hand -> hand.draw(0));
        refused("2: full of melds", STATE, RefusalTests::fullOfMelds, hand -> hand.draw(20));
        for (int melds = 1; melds <= 4; melds++) {
            for (int sort = 0; sort <= 2; sort++) {
                int laid = melds;
                int of = sort;
                refused("2: full with " + melds + " melds of sort " + sort, STATE,
                        hand -> fullWith(hand, laid, of), hand -> hand.draw(20));
            }
        }
    }

    private static void fullWith(TileHand hand, int melds, int sort) {
        for (int meld = 0; meld < melds; meld++) {
            lay(hand, sort, 9 * (meld / 2) + 4 * (meld % 2), true);
        }
        for (int kind = 27; hand.size() < 14; kind++) {
            hand.draw(kind);
            if (hand.size() < 14) {
                hand.draw(kind);
            }
        }
    }

    /** "no tile of this kind is left": four in the hand, in its melds, and among those seen, all together. */
    private void drawAndSeeWhenNoneIsLeft() {
        for (int kind = 0; kind < 34; kind++) {
            for (int held = 0; held <= 4; held++) {
                noneLeft(kind, held, 0);
            }
            for (int held = 0; held <= 1; held++) {
                noneLeft(kind, held, 3);
            }
            noneLeft(kind, 0, 4);
        }
        for (int held = 0; held <= 3; held++) {
            noneLeft(12, held, 1);
        }
        for (int held = 0; held <= 2; held++) {
            noneLeft(12, held, 2);
        }
    }

    /** Some are held, some are in melds (1 and 2 in ROWs), and the rest was seen. */
    private void noneLeft(int kind, int held, int melded) {
        Calls before = hand -> {
            for (int i = 0; melded < 3 && i < melded; i++) {
                lay(hand, 0, kind - i, false);
            }
            if (melded >= 3) {
                lay(hand, melded - 2, kind, false);
            }
            for (int i = 0; i < held; i++) {
                hand.draw(kind);
            }
            seeTimes(hand, kind, 4 - held - melded);
        };
        String where = " of " + kind + ", " + held + " held and " + melded + " melded";
        refused("2: no tile is left" + where, STATE, before, hand -> hand.draw(kind));
        refused("4: no tile is left" + where, STATE, before, hand -> hand.see(kind));
    }

    /** "Throws IllegalStateException if there is none in the hand". */
    private void drop() {
        refused("3: an empty hand", STATE, hand -> { }, hand -> hand.drop(0));
        refused("3: others in the hand", STATE, drawing(0, 2, 32), hand -> hand.drop(1));
        refused("3: the last kind, others in the hand", STATE, drawing(0, 2, 32), hand -> hand.drop(33));
        refused("3: full, but none of these", STATE, RefusalTests::full, hand -> hand.drop(4));
        refused("3: seen, not held", STATE, hand -> seeTimes(hand, 6, 4), hand -> hand.drop(6));
        refused("3: melded", STATE, RefusalTests::fullOfMelds, hand -> hand.drop(33));
        refused("3: in the midst of a ROW that was laid", STATE, RefusalTests::fullOfMelds, hand -> hand.drop(25));
        refused("3: dropped before", STATE, hand -> {
            hand.draw(8);
            hand.drop(8);
        }, hand -> hand.drop(8));
        refused("3: given back by begin", STATE, hand -> {
            hand.draw(8);
            hand.begin();
        }, hand -> hand.drop(8));
    }

    /** "Throws IllegalArgumentException if sort is not 0 to 2": named before the tiles and the four melds. */
    private void meldOfNoSort() {
        for (int sort : NO_SORTS) {
            refused("5: sort " + sort, ARGUMENT, drawing(3, 3, 3, 3, 4, 5), hand -> hand.meld(sort, 3, true));
            refused("5: closed, sort " + sort, ARGUMENT, drawing(3, 3, 3, 3, 4, 5), hand -> hand.meld(sort, 3, false));
            refused("5: an empty hand, sort " + sort, ARGUMENT, hand -> { }, hand -> hand.meld(sort, 0, true));
            refused("5: none of the kind, sort " + sort, ARGUMENT, drawing(5), hand -> hand.meld(sort, 33, true));
            refused("5: four melds, sort " + sort, ARGUMENT, RefusalTests::fullOfMelds,
                    hand -> hand.meld(sort, 5, true));
        }
    }

    /** "or there is no such ROW": also if the tiles are not there, or there are four melds. */
    private void meldOfNoRow() {
        for (int kind = 0; kind < 34; kind++) {
            if (kind < 27 && kind % 9 < 7) {
                continue;
            }
            int first = kind;
            refused("5: no ROW from " + kind, ARGUMENT, hand -> {
                for (int k = first - 2; k <= first + 2 && k < 34; k++) {
                    hand.draw(k);
                }
            }, hand -> hand.meld(0, first, true));
            refused("5: an empty hand, no ROW from " + kind, ARGUMENT, hand -> { },
                    hand -> hand.meld(0, first, false));
            refused("5: four melds, no ROW from " + kind, ARGUMENT, RefusalTests::fullOfMelds,
                    hand -> hand.meld(0, first, true));
        }
        for (int suit : SUITS) {
            refused("5: no ROW round the end of the suit " + suit, ARGUMENT,
                    drawing(suit + 7, suit + 8, suit, suit + 1), hand -> hand.meld(0, suit + 7, true));
            refused("5: no ROW from the end of the suit " + suit, ARGUMENT,
                    drawing(suit + 7, suit + 8, suit, suit + 1), hand -> hand.meld(0, suit + 8, true));
        }
        refused("5: no ROW round the last kinds", ARGUMENT, drawing(32, 33, 0), hand -> hand.meld(0, 32, true));
    }

    /** "Throws IllegalStateException if the hand does not have these tiles". */
    private void meldWithoutTheTiles() {
        for (int suit : SUITS) {
            for (int first : new int[] {suit, suit + 6}) {
                refused("5: a ROW of nothing, " + first, STATE, hand -> { }, hand -> hand.meld(0, first, true));
                refused("5: without its first, " + first, STATE, drawing(first + 1, first + 2, first + 2),
                        hand -> hand.meld(0, first, true));
                refused("5: without its second, " + first, STATE, drawing(first, first, first + 2),
                        hand -> hand.meld(0, first, false));
                refused("5: without its third, " + first, STATE, drawing(first, first + 1, first + 1),
                        hand -> hand.meld(0, first, true));
            }
        }
        for (int kind = 0; kind < 34; kind++) {
            int of = kind;
            refused("5: a THREE of nothing, " + kind, STATE, hand -> { }, hand -> hand.meld(1, of, true));
            refused("5: a FOUR of nothing, " + kind, STATE, hand -> { }, hand -> hand.meld(2, of, true));
            refused("5: a THREE of two, " + kind, STATE, drawing(kind, kind), hand -> hand.meld(1, of, false));
            refused("5: a FOUR of three, " + kind, STATE, drawing(kind, kind, kind), hand -> hand.meld(2, of, true));
        }
        refused("5: seen ones are not in the hand", STATE, hand -> {
            drawAll(hand, 6, 6);
            seeTimes(hand, 6, 2);
        }, hand -> hand.meld(1, 6, true));
        refused("5: dropped ones are not in the hand", STATE, hand -> {
            drawAll(hand, 6, 7, 8);
            hand.drop(7);
        }, hand -> hand.meld(0, 6, true));
        refused("5: melded ones are not in the hand", STATE, hand -> {
            lay(hand, 0, 6, true);
            drawAll(hand, 6, 7);
        }, hand -> hand.meld(0, 6, true));
        refused("5: a THREE that was laid, and its fourth, are no FOUR", STATE, hand -> {
            lay(hand, 1, 6, true);
            hand.draw(6);
        }, hand -> hand.meld(2, 6, true));
    }

    /** "or there are 4 melds": the hand has two tiles at most then, so these are never there. */
    private void fifthMeld() {
        for (int sort = 0; sort <= 2; sort++) {
            int of = sort;
            refused("5: a fifth meld of sort " + sort, STATE, RefusalTests::fullOfMelds,
                    hand -> hand.meld(of, 5, true));
            refused("5: a fifth meld from no tiles, of sort " + sort, STATE, hand -> {
                for (int kind = 0; kind < 4; kind++) {
                    lay(hand, 1, kind, true);
                }
            }, hand -> hand.meld(of, 0, false));
        }
    }

    /** "Throws IllegalStateException if there is no such THREE". */
    private void growWithoutThree() {
        refused("6: an empty hand", STATE, hand -> { }, hand -> hand.grow(0));
        refused("6: no melds", STATE, drawing(3, 3, 3, 3), hand -> hand.grow(3));
        for (int kind = 3; kind <= 5; kind++) {
            int of = kind;
            refused("6: a ROW that was laid, its kind " + kind, STATE, hand -> {
                lay(hand, 0, 3, true);
                drawAll(hand, 3, 4, 5);
            }, hand -> hand.grow(of));
        }
        refused("6: a FOUR that was laid", STATE, hand -> lay(hand, 2, 3, true), hand -> hand.grow(3));
        refused("6: a THREE that has grown", STATE, hand -> {
            lay(hand, 1, 3, false);
            hand.draw(3);
            hand.grow(3);
        }, hand -> hand.grow(3));
        refused("6: a THREE of another kind", STATE, hand -> {
            lay(hand, 1, 3, false);
            drawAll(hand, 2, 3, 4, 12);
        }, hand -> hand.grow(12));
        refused("6: a THREE laid before begin", STATE, hand -> {
            lay(hand, 1, 3, true);
            hand.begin();
            drawAll(hand, 3, 3, 3, 3);
        }, hand -> hand.grow(3));
        refused("6: a THREE laid before begin, and another meld", STATE, hand -> {
            lay(hand, 1, 5, true);
            lay(hand, 1, 3, true);
            hand.begin();
            lay(hand, 1, 6, true);
            drawAll(hand, 3, 3, 3, 3);
        }, hand -> hand.grow(3));
    }

    /** "or the hand has no such tile". */
    private void growWithoutTile() {
        for (int kind = 0; kind < 34; kind++) {
            int of = kind;
            refused("6: its fourth is left, " + kind, STATE, hand -> {
                lay(hand, 1, of, true);
                drawAll(hand, (of + 1) % 34, (of + 33) % 34);
            }, hand -> hand.grow(of));
        }
        refused("6: its fourth was seen", STATE, hand -> {
            lay(hand, 1, 9, false);
            hand.see(9);
        }, hand -> hand.grow(9));
        refused("6: its fourth was dropped", STATE, hand -> {
            lay(hand, 1, 9, false);
            hand.draw(9);
            hand.drop(9);
        }, hand -> hand.grow(9));
        refused("6: its fourth is in a ROW that was laid", STATE, hand -> {
            lay(hand, 1, 9, false);
            lay(hand, 0, 9, false);
        }, hand -> hand.grow(9));
    }

    /** "Throws IndexOutOfBoundsException if there is no such meld, or what is not 0 to 2". */
    private void meldAt() {
        for (int melds = 0; melds <= 4; melds++) {
            int laid = melds;
            Calls before = hand -> {
                for (int kind = 0; kind < laid; kind++) {
                    lay(hand, 1, kind, true);
                }
            };
            for (int meld : new int[] {-1, melds, melds + 1, 4, 5, Integer.MIN_VALUE, Integer.MAX_VALUE}) {
                refused("11: meld " + meld + " of " + melds, INDEX, before, hand -> hand.meldAt(meld, 0));
                refused("11: meld " + meld + " of " + melds + ", and no such what", INDEX, before,
                        hand -> hand.meldAt(meld, 3));
            }
            for (int what : new int[] {-1, 3, 4, Integer.MIN_VALUE, Integer.MAX_VALUE}) {
                refused("11: what " + what + " of the first of " + melds, INDEX, before, hand -> hand.meldAt(0, what));
                refused("11: what " + what + " of the last of " + melds, INDEX, before,
                        hand -> hand.meldAt(laid - 1, what));
            }
        }
        refused("11: a meld laid before begin", INDEX, hand -> {
            fullOfMelds(hand);
            hand.begin();
        }, hand -> hand.meldAt(0, 0));
        refused("11: a meld that was refused", INDEX, hand -> {
            drawAll(hand, 0, 0);
            Check.outcome(() -> hand.meld(1, 0, true));
        }, hand -> hand.meldAt(0, 0));
    }

    /** "Throws IllegalStateException if there are no tiles in the hand". */
    private void advice() {
        refused("16: a new hand", STATE, hand -> { }, hand -> hand.advice());
        refused("16: its only tile is dropped", STATE, hand -> {
            hand.draw(33);
            hand.drop(33);
        }, hand -> hand.advice());
        refused("16: behind begin", STATE, hand -> {
            full(hand);
            hand.begin();
        }, hand -> hand.advice());
        for (int melds = 1; melds <= 4; melds++) {
            int laid = melds;
            refused("16: " + melds + " melds and no tiles", STATE, hand -> {
                for (int kind = 0; kind < laid; kind++) {
                    lay(hand, 1 + kind % 2, kind, true);
                }
            }, hand -> hand.advice());
        }
    }

    /** "Throws IllegalArgumentException if one of them is not 27 to 30". */
    private void setWinds() {
        Calls before = hand -> {
            drawAll(hand, 27, 27, 27, 30, 30, 30, 29, 29, 29, 28, 28, 28, 0, 0);
            hand.setWinds(29, 30);
        };
        for (int wind : NO_WINDS) {
            for (int fit = 27; fit <= 30; fit++) {
                int other = fit;
                refused("17: seat " + wind + ", round " + fit, ARGUMENT, before, hand -> hand.setWinds(wind, other));
                refused("17: seat " + fit + ", round " + wind, ARGUMENT, before, hand -> hand.setWinds(other, wind));
            }
            for (int also : NO_WINDS) {
                refused("17: seat " + wind + ", round " + also, ARGUMENT, before, hand -> hand.setWinds(wind, also));
            }
        }
    }

    /** "Throws IllegalArgumentException if base is not 1 to 100, or limit is not 1 to 13". */
    private void setPoints() {
        int[] noBases = {0, 101, -1, Integer.MIN_VALUE, Integer.MAX_VALUE};
        int[] noLimits = {0, 14, -1, Integer.MIN_VALUE, Integer.MAX_VALUE};
        Calls before = hand -> {
            drawAll(hand, 27, 27, 27, 30, 30, 30, 29, 29, 29, 28, 28, 28, 0, 0);
            hand.setPoints(3, 2);
        };
        for (int base : noBases) {
            refused("18: base " + base, ARGUMENT, before, hand -> hand.setPoints(base, 1));
            refused("18: base " + base + ", limit 13", ARGUMENT, before, hand -> hand.setPoints(base, 13));
            for (int limit : noLimits) {
                refused("18: base " + base + ", limit " + limit, ARGUMENT, before,
                        hand -> hand.setPoints(base, limit));
            }
        }
        for (int limit : noLimits) {
            refused("18: limit " + limit, ARGUMENT, before, hand -> hand.setPoints(1, limit));
            refused("18: base 100, limit " + limit, ARGUMENT, before, hand -> hand.setPoints(100, limit));
        }
    }

    /** "Throws IllegalStateException if the hand is not complete". */
    private void fansAndPoints() {
        notComplete("a new hand", hand -> { });
        notComplete("four groups and no pair", drawing(0, 1, 2, 9, 9, 9, 24, 25, 26, 31, 31, 31));
        notComplete("a hand that waits", drawing(0, 1, 2, 9, 9, 9, 24, 25, 26, 31, 31, 31, 5));
        notComplete("fourteen tiles, no pair", drawing(0, 1, 2, 9, 9, 9, 24, 25, 26, 31, 31, 31, 5, 6));
        notComplete("three groups and a pair", drawing(0, 1, 2, 9, 9, 9, 24, 25, 26, 5, 5));
        notComplete("ORPHANS but one", drawing(ORPHANS));
        notComplete("six pairs", drawing(0, 0, 3, 3, 6, 6, 12, 12, 20, 20, 27, 27));
        notComplete("six pairs and two more", drawing(0, 0, 3, 3, 6, 6, 12, 12, 20, 20, 27, 27, 30, 33));
        notComplete("seven pairs of six kinds", drawing(0, 0, 0, 0, 6, 6, 12, 12, 20, 20, 27, 27, 30, 30));
        Calls melds = hand -> {
            fullOfMelds(hand);
            hand.drop(5);
        };
        notComplete("four melds and one tile", melds);
        notComplete("four melds and two kinds", hand -> {
            melds.on(hand);
            hand.draw(6);
        });
        notComplete("behind begin", hand -> {
            fullOfMelds(hand);
            hand.begin();
        });
    }

    private void notComplete(String where, Calls before) {
        refused("19: fans of " + where, STATE, before, hand -> hand.fans(false));
        refused("19: fans by SELF of " + where, STATE, before, hand -> hand.fans(true));
        refused("20: points of " + where, STATE, before, hand -> hand.points(false));
        refused("20: points by SELF of " + where, STATE, before, hand -> hand.points(true));
    }

    /** Many refused calls, one behind the other, change no more than one does. */
    private void refusedAgainAndAgain() {
        refused("A method that throws an exception changes nothing", INDEX, RefusalTests::fullOfMelds, hand -> {
            for (int i = 0; i < 12; i++) {
                Check.outcome(() -> hand.draw(20));
                Check.outcome(() -> hand.drop(33));
                Check.outcome(() -> hand.see(0));
                Check.outcome(() -> hand.meld(1, 5, false));
                Check.outcome(() -> hand.meld(0, 7, false));
                Check.outcome(() -> hand.meld(3, 5, false));
                Check.outcome(() -> hand.grow(33));
                Check.outcome(() -> hand.setWinds(30, 31));
                Check.outcome(() -> hand.setWinds(26, 30));
                Check.outcome(() -> hand.setPoints(100, 14));
                Check.outcome(() -> hand.setPoints(101, 13));
                Check.outcome(() -> hand.meldAt(4, 0));
            }
            hand.count(34, true);
        });
    }
}
