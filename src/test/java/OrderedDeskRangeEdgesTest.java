// The edges that the document names in promises 11 (look) and 12 (narrow), each by itself.
public final class OrderedDeskRangeEdgesTest extends EdgeTests {
    private static final int[] OTHER_KINDS = {MIN, -1, 4, 5, MAX};

    public static void main(String[] args) {
        run(OrderedDeskRangeEdgesTest.class, 11, 12);
    }

    private static OrderedDesk nine() {
        return desk(1, 2, 3, 4, 5, 6, 7, 8, 9);
    }

    /** A view of the keys 4 to 8, of nine, in the order that is told. */
    private static OrderedDesk fourToEight(boolean falling, boolean fourIn, boolean eightIn) {
        return deskSeen(falling, 4, fourIn, 8, eightIn, 1, 2, 3, 4, 5, 6, 7, 8, 9);
    }

    @Edge(promise = 11, says = "kind 0: all")
    static void lookAtAll() {
        OrderedDesk x = desk(MIN, 3, MAX);
        x.look(3, 3, true, 3, true);
        is(x.look(0, 9, false, -9, false), 0);
        viewIs(x, "MIN 3 MAX");
        rangeIs(x, "MIN -1 0 1 2 3 4 5 6 7 8 9 10 11 MAX");
    }

    @Edge(promise = 11, says = "1: up to to, with the end itself if it is in")
    static void lookUpTo() {
        OrderedDesk x = desk(MIN, 2, 3, 4, MAX);
        is(x.look(1, 0, true, 3, true), 0);
        viewIs(x, "MIN 2 3");
        rangeIs(x, "MIN -1 0 1 2 3");
    }

    @Edge(promise = 11, says = "1: up to to, not with the end itself if it is not in")
    static void lookBefore() {
        OrderedDesk x = desk(MIN, 2, 3, 4, MAX);
        is(x.look(1, 0, true, 3, false), 0);
        viewIs(x, "MIN 2");
        rangeIs(x, "MIN -1 0 1 2");
    }

    @Edge(promise = 11, says = "2: from from on, with the end itself if it is in")
    static void lookFrom() {
        OrderedDesk x = desk(MIN, 2, 3, 4, MAX);
        is(x.look(2, 3, true, 0, true), 0);
        viewIs(x, "3 4 MAX");
        rangeIs(x, "3 4 5 6 7 8 9 10 11 MAX");
    }

    @Edge(promise = 11, says = "2: from from on, not with the end itself if it is not in")
    static void lookBehind() {
        OrderedDesk x = desk(MIN, 2, 3, 4, MAX);
        is(x.look(2, 3, false, 0, true), 0);
        viewIs(x, "4 MAX");
        rangeIs(x, "4 5 6 7 8 9 10 11 MAX");
    }

    @Edge(promise = 11, says = "3: both, with the ends themselves if they are in")
    static void lookBetween() {
        OrderedDesk x = nine();
        is(x.look(3, 3, true, 6, true), 0);
        rangeIs(x, "3 4 5 6");
        is(x.look(3, 3, true, 6, false), 0);
        rangeIs(x, "3 4 5");
        is(x.look(3, 3, false, 6, true), 0);
        rangeIs(x, "4 5 6");
        is(x.look(3, 3, false, 6, false), 0);
        rangeIs(x, "4 5");
        viewIs(x, "4 5");
    }

    @Edge(promise = 11, says = "the ends need not be keys of the map")
    static void lookBetweenKeysThatAreNotThere() {
        OrderedDesk x = desk(1, 4, 9);
        is(x.look(3, 2, true, 8, false), 0);
        viewIs(x, "4");
        is(x.look(3, 5, true, 8, true), 0);
        viewIs(x, "");
        rangeIs(x, "5 6 7 8");
        is(desk().look(3, 5, true, 8, true), 0);
    }

    @Edge(promise = 11, says = "from equal to to, both in: that key alone")
    static void lookAtOneKey() {
        OrderedDesk x = nine();
        is(x.look(3, 5, true, 5, true), 0);
        viewIs(x, "5");
        rangeIs(x, "5");
    }

    @Edge(promise = 11, says = "from equal to to, one or both not in: no key at all")
    static void lookAtNoKey() {
        OrderedDesk x = nine();
        is(x.look(3, 5, true, 5, false), 0);
        viewIs(x, "");
        rangeIs(x, "");
        is(x.look(3, 5, false, 5, true), 0);
        viewIs(x, "");
        rangeIs(x, "");
        is(x.look(3, 5, false, 5, false), 0);
        viewIs(x, "");
        rangeIs(x, "");
    }

    @Edge(promise = 11, says = "from and to next to each other, both not in: no key at all")
    static void lookBetweenNeighbours() {
        OrderedDesk x = nine();
        is(x.look(3, 5, false, 6, false), 0);
        viewIs(x, "");
        rangeIs(x, "");
    }

    @Edge(promise = 11, says = "the ends of int as ends of the range")
    static void lookAtTheEndsOfInt() {
        OrderedDesk x = desk(MIN, 0, MAX);
        is(x.look(1, 0, true, MIN, true), 0);
        viewIs(x, "MIN");
        is(x.look(1, 0, true, MIN, false), 0);
        rangeIs(x, "");
        is(x.look(1, 0, true, MAX, true), 0);
        viewIs(x, "MIN 0 MAX");
        is(x.look(1, 0, true, MAX, false), 0);
        viewIs(x, "MIN 0");
        is(x.look(2, MAX, true, 0, true), 0);
        viewIs(x, "MAX");
        is(x.look(2, MAX, false, 0, true), 0);
        rangeIs(x, "");
        is(x.look(2, MIN, true, 0, true), 0);
        viewIs(x, "MIN 0 MAX");
        is(x.look(2, MIN, false, 0, true), 0);
        viewIs(x, "0 MAX");
    }

    @Edge(promise = 11, says = "1 for kind 3 if from is above to (the view stays)")
    static void lookFromAboveTo() {
        for (boolean falling : BOTH) {
            for (boolean fromIn : BOTH) {
                for (boolean toIn : BOTH) {
                    leaves(() -> fourToEight(falling, true, false), 1, x -> x.look(3, 6, fromIn, 5, toIn));
                    leaves(() -> fourToEight(falling, true, false), 1, x -> x.look(3, MAX, fromIn, MIN, toIn));
                }
            }
        }
        leaves(() -> nine(), 1, x -> x.look(3, MIN + 1, true, MIN, true));
        leaves(() -> nine(), 1, x -> x.look(3, MAX, true, MAX - 1, true));
    }

    @Edge(promise = 11, says = "1 for another kind (the view stays)")
    static void lookOfAnotherKind() {
        for (boolean falling : BOTH) {
            for (int kind : OTHER_KINDS) {
                leaves(() -> fourToEight(falling, true, false), 1, x -> x.look(kind, 1, true, 9, true));
            }
        }
    }

    @Edge(promise = 11, says = "from above to is refused for kind 3 alone")
    static void lookWithOneEndHasNoFromAboveTo() {
        OrderedDesk x = nine();
        is(x.look(1, 9, true, 3, true), 0);
        viewIs(x, "1 2 3");
        is(x.look(2, 8, true, 1, true), 0);
        viewIs(x, "8 9");
        is(x.look(0, 8, true, 1, true), 0);
        viewIs(x, "1 2 3 4 5 6 7 8 9");
    }

    @Edge(promise = 11, says = "from is above to in rising order, also if the view is falling")
    static void lookRefusesByTheRisingOrder() {
        OrderedDesk x = turned(nine());
        is(x.look(3, 4, true, 6, true), 0);
        viewIs(x, "4 5 6");
    }

    @Edge(promise = 11, says = "the view is another one, rising")
    static void lookIsRising() {
        for (int kind = 0; kind <= 3; kind++) {
            OrderedDesk x = turned(desk(4, 5, 6));
            is(x.look(kind, 4, true, 6, true), 0);
            viewIs(x, "4 5 6");
        }
    }

    @Edge(promise = 11, says = "of the whole map, not of the view")
    static void lookIsOfTheWholeMap() {
        OrderedDesk x = nine();
        x.look(3, 4, true, 6, true);
        is(x.look(3, 1, true, 9, true), 0);
        viewIs(x, "1 2 3 4 5 6 7 8 9");
        x.look(3, 5, false, 5, false);
        is(x.look(1, 0, true, 2, true), 0);
        viewIs(x, "1 2");
        is(x.look(2, 8, true, 0, true), 0);
        viewIs(x, "8 9");
    }

    @Edge(promise = 11, says = "the map stays")
    static void lookLeavesTheMap() {
        OrderedDesk x = desk(1, 5, 9);
        x.look(3, 4, true, 6, true);
        mapIs(x, "1=10 5=50 9=90");
    }

    @Edge(promise = 12, says = "kind 0: all of itself, in its order")
    static void narrowToAll() {
        for (boolean falling : BOTH) {
            leaves(() -> fourToEight(falling, false, true), 0, x -> x.narrow(0, 5, true, 6, true));
            leaves(() -> fourToEight(falling, true, false), 0, x -> x.narrow(0, MAX, true, MIN, true));
            leaves(() -> fourToEight(falling, true, false), 0, x -> x.narrow(0, MIN, true, MAX, true));
        }
    }

    @Edge(promise = 12, says = "a part of itself, rising: kinds 1, 2 and 3, the ends in or not")
    static void narrowRising() {
        narrowedIs(false, 1, 0, true, 6, true, "4 5 6");
        narrowedIs(false, 1, 0, true, 6, false, "4 5");
        narrowedIs(false, 2, 6, true, 0, true, "6 7 8");
        narrowedIs(false, 2, 6, false, 0, true, "7 8");
        narrowedIs(false, 3, 5, true, 7, true, "5 6 7");
        narrowedIs(false, 3, 5, true, 7, false, "5 6");
        narrowedIs(false, 3, 5, false, 7, true, "6 7");
        narrowedIs(false, 3, 5, false, 7, false, "6");
    }

    @Edge(promise = 12, says = "in its order (from is what comes first in it), falling: each kind")
    static void narrowFalling() {
        narrowedIs(true, 1, 0, true, 6, true, "8 7 6");
        narrowedIs(true, 1, 0, true, 6, false, "8 7");
        narrowedIs(true, 2, 6, true, 0, true, "6 5 4");
        narrowedIs(true, 2, 6, false, 0, true, "5 4");
        narrowedIs(true, 3, 7, true, 5, true, "7 6 5");
        narrowedIs(true, 3, 7, true, 5, false, "7 6");
        narrowedIs(true, 3, 7, false, 5, true, "6 5");
        narrowedIs(true, 3, 7, false, 5, false, "6");
    }

    private static void narrowedIs(boolean falling, int kind, int from, boolean fromIn, int to, boolean toIn,
            String want) {
        OrderedDesk x = fourToEight(falling, true, true);
        is(x.narrow(kind, from, fromIn, to, toIn), 0);
        viewIs(x, want);
    }

    @Edge(promise = 12, says = "the ends themselves may be told, if they are in the range")
    static void narrowToTheSameRange() {
        leaves(() -> fourToEight(false, true, true), 0, x -> x.narrow(3, 4, true, 8, true));
        leaves(() -> fourToEight(true, true, true), 0, x -> x.narrow(3, 8, true, 4, true));
        leaves(() -> fourToEight(false, false, false), 0, x -> x.narrow(3, 4, false, 8, false));
        leaves(() -> fourToEight(true, false, false), 0, x -> x.narrow(3, 8, false, 4, false));
    }

    @Edge(promise = 12, says = "an end that is not told stays as it is, in or not")
    static void narrowKeepsTheOtherEnd() {
        OrderedDesk x = fourToEight(false, false, true);
        is(x.narrow(1, 0, true, 6, true), 0);
        rangeIs(x, "5 6");
        x = fourToEight(false, true, false);
        is(x.narrow(2, 6, true, 0, true), 0);
        rangeIs(x, "6 7");
        x = fourToEight(true, false, true);
        is(x.narrow(2, 6, true, 0, true), 0);
        rangeIs(x, "5 6");
        x = fourToEight(true, true, false);
        is(x.narrow(1, 0, true, 6, true), 0);
        rangeIs(x, "6 7");
    }

    @Edge(promise = 12, says = "1 if from comes behind to, rising; it stays then")
    static void narrowFromBehindToRising() {
        for (boolean fromIn : BOTH) {
            for (boolean toIn : BOTH) {
                leaves(() -> fourToEight(false, true, true), 1, x -> x.narrow(3, 6, fromIn, 5, toIn));
                leaves(() -> fourToEight(false, true, true), 1, x -> x.narrow(3, 8, fromIn, 4, toIn));
                leaves(() -> nine(), 1, x -> x.narrow(3, MAX, fromIn, MIN, toIn));
            }
        }
    }

    @Edge(promise = 12, says = "1 if from comes behind to, falling; it stays then")
    static void narrowFromBehindToFalling() {
        for (boolean fromIn : BOTH) {
            for (boolean toIn : BOTH) {
                leaves(() -> fourToEight(true, true, true), 1, x -> x.narrow(3, 5, fromIn, 6, toIn));
                leaves(() -> fourToEight(true, true, true), 1, x -> x.narrow(3, 4, fromIn, 8, toIn));
                leaves(() -> turned(nine()), 1, x -> x.narrow(3, MIN, fromIn, MAX, toIn));
            }
        }
    }

    @Edge(promise = 12, says = "from comes behind to: as for look, for kind 3 alone")
    static void narrowWithOneEndHasNoFromBehindTo() {
        narrowedIs(false, 1, 8, true, 5, true, "4 5");
        narrowedIs(false, 2, 7, true, 4, true, "7 8");
        narrowedIs(true, 1, 4, true, 7, true, "8 7");
        narrowedIs(true, 2, 5, true, 8, true, "5 4");
    }

    @Edge(promise = 12, says = "from equal to to does not come behind it")
    static void narrowToOneKey() {
        for (boolean falling : BOTH) {
            narrowedIs(falling, 3, 6, true, 6, true, "6");
            narrowedIs(falling, 3, 6, true, 6, false, "");
            narrowedIs(falling, 3, 6, false, 6, true, "");
            narrowedIs(falling, 3, 6, false, 6, false, "");
            narrowedIs(falling, 3, 4, true, 4, true, "4");
            narrowedIs(falling, 3, 8, true, 8, true, "8");
        }
    }

    @Edge(promise = 12, says = "1 for another kind; it stays then")
    static void narrowOfAnotherKind() {
        for (boolean falling : BOTH) {
            for (int kind : OTHER_KINDS) {
                leaves(() -> fourToEight(falling, true, false), 1, x -> x.narrow(kind, 6, true, 6, true));
            }
        }
    }

    @Edge(promise = 12, says = "1 if from is not in its range, before it or behind it; it stays then")
    static void narrowFromOutside() {
        for (boolean falling : BOTH) {
            for (boolean in : BOTH) {
                for (int from : new int[] {MIN, 3, 9, MAX}) {
                    leaves(() -> fourToEight(falling, true, true), 1, x -> x.narrow(2, from, in, 6, true));
                    leaves(() -> fourToEight(falling, false, false), 1, x -> x.narrow(2, from, in, 6, true));
                }
            }
        }
    }

    @Edge(promise = 12, says = "1 if to is not in its range, before it or behind it; it stays then")
    static void narrowToOutside() {
        for (boolean falling : BOTH) {
            for (boolean in : BOTH) {
                for (int to : new int[] {MIN, 3, 9, MAX}) {
                    leaves(() -> fourToEight(falling, true, true), 1, x -> x.narrow(1, 6, true, to, in));
                    leaves(() -> fourToEight(falling, false, false), 1, x -> x.narrow(1, 6, true, to, in));
                }
            }
        }
    }

    @Edge(promise = 12, says = "1 if one of both ends is not in its range; it stays then")
    static void narrowBetweenWithOneEndOutside() {
        for (boolean in : BOTH) {
            leaves(() -> fourToEight(false, true, true), 1, x -> x.narrow(3, 3, in, 6, true));
            leaves(() -> fourToEight(false, true, true), 1, x -> x.narrow(3, 6, true, 9, in));
            leaves(() -> fourToEight(false, true, true), 1, x -> x.narrow(3, 3, in, 9, in));
            leaves(() -> fourToEight(true, true, true), 1, x -> x.narrow(3, 9, in, 6, true));
            leaves(() -> fourToEight(true, true, true), 1, x -> x.narrow(3, 6, true, 3, in));
            leaves(() -> fourToEight(true, true, true), 1, x -> x.narrow(3, 9, in, 3, in));
        }
    }

    @Edge(promise = 12, says = "an end that is not told may be anywhere")
    static void narrowWithAnEndThatIsNotTold() {
        for (int far : new int[] {MIN, 3, 9, MAX}) {
            for (boolean in : BOTH) {
                narrowedIs(false, 1, far, in, 5, true, "4 5");
                narrowedIs(false, 2, 7, true, far, in, "7 8");
                narrowedIs(true, 1, far, in, 7, true, "8 7");
                narrowedIs(true, 2, 5, true, far, in, "5 4");
            }
        }
    }

    @Edge(promise = 12, says = "an end that is in itself may not be an end of the range that is not in it")
    static void narrowInAtAnEndThatIsNotIn() {
        for (boolean falling : BOTH) {
            for (int end : new int[] {4, 8}) {
                leaves(() -> fourToEight(falling, false, false), 1, x -> x.narrow(1, 6, true, end, true));
                leaves(() -> fourToEight(falling, false, false), 1, x -> x.narrow(2, end, true, 6, true));
                leaves(() -> fourToEight(falling, false, false), 1, x -> x.narrow(3, end, true, end, true));
            }
        }
        leaves(() -> fourToEight(false, false, false), 1, x -> x.narrow(3, 4, true, 8, false));
        leaves(() -> fourToEight(false, false, false), 1, x -> x.narrow(3, 4, false, 8, true));
        leaves(() -> fourToEight(true, false, false), 1, x -> x.narrow(3, 8, true, 4, false));
        leaves(() -> fourToEight(true, false, false), 1, x -> x.narrow(3, 8, false, 4, true));
    }

    @Edge(promise = 12, says = "one that is not in itself may be the end of the range, rising")
    static void narrowNotInAtAnEndRising() {
        for (boolean endsIn : BOTH) {
            narrowedAtTheEndIs(false, endsIn, 2, 4, "5 6 7" + (endsIn ? " 8" : ""));
            narrowedAtTheEndIs(false, endsIn, 2, 8, "");
            narrowedAtTheEndIs(false, endsIn, 1, 8, (endsIn ? "4 " : "") + "5 6 7");
            narrowedAtTheEndIs(false, endsIn, 1, 4, "");
            narrowedAtTheEndIs(false, endsIn, 3, 4, "");
            narrowedAtTheEndIs(false, endsIn, 3, 8, "");
        }
    }

    @Edge(promise = 12, says = "one that is not in itself may be the end of the range, falling")
    static void narrowNotInAtAnEndFalling() {
        for (boolean endsIn : BOTH) {
            narrowedAtTheEndIs(true, endsIn, 2, 8, "7 6 5" + (endsIn ? " 4" : ""));
            narrowedAtTheEndIs(true, endsIn, 2, 4, "");
            narrowedAtTheEndIs(true, endsIn, 1, 4, (endsIn ? "8 " : "") + "7 6 5");
            narrowedAtTheEndIs(true, endsIn, 1, 8, "");
            narrowedAtTheEndIs(true, endsIn, 3, 4, "");
            narrowedAtTheEndIs(true, endsIn, 3, 8, "");
        }
    }

    private static void narrowedAtTheEndIs(boolean falling, boolean endsIn, int kind, int end, String want) {
        OrderedDesk x = fourToEight(falling, endsIn, endsIn);
        is(x.narrow(kind, end, false, end, false), 0);
        viewIs(x, want);
    }

    @Edge(promise = 12, says = "the end of a range without keys, not in itself")
    static void narrowOfARangeWithoutKeys() {
        for (boolean falling : BOTH) {
            for (int kind = 1; kind <= 3; kind++) {
                int of = kind;
                leaves(() -> deskSeen(falling, 5, false, 5, false, 4, 5, 6), 0, x -> x.narrow(of, 5, false, 5, false));
                leaves(() -> deskSeen(falling, 5, false, 5, false, 4, 5, 6), 1, x -> x.narrow(of, 5, true, 5, true));
                leaves(() -> deskSeen(falling, 5, false, 5, false, 4, 5, 6), 1, x -> x.narrow(of, 4, false, 4, false));
                leaves(() -> deskSeen(falling, 5, false, 5, false, 4, 5, 6), 1, x -> x.narrow(of, 6, false, 6, false));
                leaves(() -> deskSeen(falling, 5, true, 5, false, 4, 5, 6), 1, x -> x.narrow(of, 5, true, 5, true));
                leaves(() -> deskSeen(falling, 5, false, 5, true, 4, 5, 6), 1, x -> x.narrow(of, 5, true, 5, true));
            }
        }
    }

    @Edge(promise = 12, says = "in its range is asked of the range, not of its entries")
    static void narrowOfARangeWithoutEntries() {
        for (boolean falling : BOTH) {
            OrderedDesk x = deskSeen(falling, 4, true, 8, true, 1, 9);
            is(x.narrow(3, 6, true, 6, true), 0);
            rangeIs(x, "6");
            is(x.narrow(2, 1, true, 0, true), 1);
            is(x.narrow(1, 0, true, 9, true), 1);
            rangeIs(x, "6");
        }
    }

    @Edge(promise = 12, says = "a range without an end holds all keys on that side")
    static void narrowOfARangeWithoutAnEnd() {
        for (boolean in : BOTH) {
            is(nine().narrow(2, MIN, in, 0, true), 0);
            is(nine().narrow(2, MAX, in, 0, true), 0);
            is(nine().narrow(1, 0, true, MIN, in), 0);
            is(nine().narrow(1, 0, true, MAX, in), 0);
            is(nine().narrow(3, MIN, in, MAX, in), 0);
            is(turned(nine()).narrow(3, MAX, in, MIN, in), 0);
            OrderedDesk upTo = nine();
            upTo.look(1, 0, true, 5, true);
            is(upTo.narrow(2, MIN, in, 0, true), 0);
            OrderedDesk from = nine();
            from.look(2, 5, true, 0, true);
            is(from.narrow(1, 0, true, MAX, in), 0);
        }
    }

    @Edge(promise = 12, says = "a range that ends at an end of int")
    static void narrowAtTheEndsOfInt() {
        for (boolean falling : BOTH) {
            int first = falling ? MAX : MIN;
            int last = falling ? MIN : MAX;
            OrderedDesk notIn = deskSeen(falling, MIN, false, MAX, false, MIN, 0, MAX);
            is(notIn.narrow(3, first, true, last, false), 1);
            is(notIn.narrow(3, first, false, last, true), 1);
            is(notIn.narrow(3, first, false, last, false), 0);
            viewIs(notIn, "0");
            OrderedDesk in = deskSeen(falling, MIN, true, MAX, true, MIN, 0, MAX);
            is(in.narrow(3, first, true, last, true), 0);
            viewIs(in, falling ? "MAX 0 MIN" : "MIN 0 MAX");
        }
    }

    @Edge(promise = 12, says = "a part of a part is never more than the part")
    static void narrowAgainAndAgain() {
        OrderedDesk x = nine();
        is(x.narrow(3, 2, true, 8, true), 0);
        is(x.narrow(3, 1, true, 8, true), 1);
        is(x.narrow(1, 0, true, 6, true), 0);
        is(x.narrow(1, 0, true, 7, true), 1);
        is(x.turn(), 5);
        is(x.narrow(1, 0, true, 4, true), 0);
        is(x.narrow(1, 0, true, 3, true), 1);
        is(x.narrow(2, 7, true, 0, true), 1);
        viewIs(x, "6 5 4");
        is(x.turn(), 3);
        is(x.narrow(3, 4, false, 6, false), 0);
        viewIs(x, "5");
    }

    @Edge(promise = 12, says = "the map stays")
    static void narrowLeavesTheMap() {
        OrderedDesk x = desk(1, 5, 9);
        x.narrow(3, 4, true, 6, true);
        mapIs(x, "1=10 5=50 9=90");
    }

    @Edge(promise = 12, says = "every small range, narrowed to every small part, by the words of the promise")
    static void narrowInEverySmallCase() {
        for (int code = 0; code < 5 * 5 * 4; code++) {
            int low = code % 5;
            int high = code / 5 % 5;
            boolean lowIn = code / 25 % 2 == 0;
            boolean highIn = code / 50 == 0;
            if (low <= high) {
                narrowInEveryWay(false, low, lowIn, high, highIn);
                narrowInEveryWay(true, low, lowIn, high, highIn);
            }
        }
    }

    private static void narrowInEveryWay(boolean falling, int low, boolean lowIn, int high, boolean highIn) {
        for (int code = 0; code < 4 * 7 * 7 * 4; code++) {
            int kind = code % 4;
            int from = code / 4 % 7 - 1;
            int to = code / 28 % 7 - 1;
            boolean fromIn = code / 196 % 2 == 0;
            boolean toIn = code / 392 == 0;
            boolean fromTold = kind >= 2;
            boolean toTold = kind % 2 == 1;
            int rising = falling ? -1 : 1;
            boolean fromFits = fromIn ? isIn(from, low, lowIn, high, highIn) : from >= low && from <= high;
            boolean toFits = toIn ? isIn(to, low, lowIn, high, highIn) : to >= low && to <= high;
            boolean refused = fromTold && !fromFits || toTold && !toFits || kind == 3 && (from - to) * rising > 0;
            OrderedDesk x = deskSeen(falling, low, lowIn, high, highIn, 0, 1, 2, 3, 4);
            is(x.narrow(kind, from, fromIn, to, toIn), refused ? 1 : 0);
            StringBuilder want = new StringBuilder();
            for (int i = 0; i <= 4; i++) {
                int key = falling ? 4 - i : i;
                boolean notBeforeFrom = !fromTold || (key - from) * rising > 0 || fromIn && key == from;
                boolean notBehindTo = !toTold || (to - key) * rising > 0 || toIn && key == to;
                if (isIn(key, low, lowIn, high, highIn) && (refused || notBeforeFrom && notBehindTo)) {
                    want.append(' ').append(key);
                }
            }
            viewIs(x, want.toString().trim());
        }
    }

    private static boolean isIn(int key, int low, boolean lowIn, int high, boolean highIn) {
        return (key > low || lowIn && key == low) && (key < high || highIn && key == high);
    }
}
