import java.util.List;
import java.util.function.Supplier;

// The edges that the document names in promises 13 to 24, each by itself.
public final class OrderedDeskViewEdgesTest extends EdgeTests {
    public static void main(String[] args) {
        run(OrderedDeskViewEdgesTest.class, 13, 24);
    }

    /** Views without entries: of no map, beside the entries, and of ranges that have no keys. */
    private static final List<Supplier<OrderedDesk>> EMPTY_VIEWS = List.of(
        () -> desk(),
        () -> turned(desk()),
        () -> deskSeen(false, 4, true, 6, true, 3, 7),
        () -> deskSeen(true, 4, true, 6, true, 3, 7),
        () -> deskSeen(false, 3, false, 7, false, 3, 7),
        () -> deskSeen(true, 3, false, 7, false, 3, 7),
        () -> deskSeen(false, 8, true, 9, true, 3, 7),
        () -> deskSeen(true, 0, true, 2, true, 3, 7),
        () -> deskSeen(false, 5, true, 5, false, 4, 5, 6),
        () -> deskSeen(true, 5, false, 5, true, 4, 5, 6),
        () -> deskSeen(false, 5, false, 5, false, 4, 5, 6),
        () -> deskSeen(true, 5, false, 5, false, 4, 5, 6));

    /** The view has 4 to 6 of the keys 3 to 7, in the order that is told. */
    private static OrderedDesk fourToSix(boolean falling) {
        return deskSeen(falling, 4, true, 6, true, 3, 4, 5, 6, 7);
    }

    @Edge(promise = 13, says = "turns its order round")
    static void turnTurnsTheOrder() {
        OrderedDesk x = fourToSix(false);
        x.turn();
        viewIs(x, "6 5 4");
        x.turn();
        viewIs(x, "4 5 6");
    }

    @Edge(promise = 13, says = "its size, the view's and not the map's")
    static void turnTellsTheViewsSize() {
        is(fourToSix(false).turn(), 3);
        is(fourToSix(true).turn(), 3);
        is(desk(MIN, MAX).turn(), 2);
    }

    @Edge(promise = 13, says = "a view without entries")
    static void turnOfNone() {
        for (Supplier<OrderedDesk> make : EMPTY_VIEWS) {
            OrderedDesk x = make.get();
            is(x.turn(), 0);
            is(x.turn(), 0);
        }
    }

    @Edge(promise = 13, says = "a view without entries turns, too")
    static void turnOfNoneTurns() {
        OrderedDesk x = desk();
        x.turn();
        x.put(1, 1);
        x.put(2, 2);
        viewIs(x, "2 1");
        OrderedDesk ranged = deskSeen(false, 4, true, 6, true, 3, 7);
        ranged.turn();
        ranged.put(4, 1);
        ranged.put(6, 1);
        viewIs(ranged, "6 4");
    }

    @Edge(promise = 13, says = "the range, its ends and the map stay")
    static void turnLeavesTheRange() {
        OrderedDesk x = deskSeen(false, 4, true, 6, false, 3, 4, 5, 6);
        x.turn();
        rangeIs(x, "4 5");
        mapIs(x, "3=30 4=40 5=50 6=60");
        leaves(() -> fourToSix(false), 3, y -> {
            y.turn();
            return y.turn();
        });
    }

    @Edge(promise = 14, says = "how many entries the view has")
    static void viewSizeOfSome() {
        for (boolean falling : BOTH) {
            is(fourToSix(falling).viewSize(), 3);
            is(deskSeen(falling, 4, false, 6, true, 3, 4, 5, 6, 7).viewSize(), 2);
            is(deskSeen(falling, 4, true, 6, false, 3, 4, 5, 6, 7).viewSize(), 2);
            is(deskSeen(falling, 4, false, 6, false, 3, 4, 5, 6, 7).viewSize(), 1);
            is(deskSeen(falling, MIN, true, MAX, true, MIN, MAX).viewSize(), 2);
        }
    }

    @Edge(promise = 14, says = "a view without entries")
    static void viewSizeOfNone() {
        for (Supplier<OrderedDesk> make : EMPTY_VIEWS) {
            leaves(make, 0, OrderedDesk::viewSize);
        }
    }

    @Edge(promise = 15, says = "as put: NOTHING if the key was not there, else the value it had")
    static void viewPutInTheRange() {
        for (boolean falling : BOTH) {
            OrderedDesk x = deskSeen(falling, 4, true, 6, true, 3, 5, 7);
            is(x.viewPut(4, 44), NOTHING);
            is(x.viewPut(6, 66), NOTHING);
            is(x.viewPut(5, MIN), 50);
            is(x.viewPut(5, MAX), MIN);
            is(x.viewPut(5, 55), MAX);
            mapIs(x, "3=30 4=44 5=55 6=66 7=70");
        }
    }

    @Edge(promise = 15, says = "OUTSIDE for a key before or behind the range, and nothing is changed")
    static void viewPutOutsideTheRange() {
        for (boolean falling : BOTH) {
            for (int key : new int[] {MIN, 3, 7, MAX}) {
                leaves(() -> fourToSix(falling), OUTSIDE, x -> x.viewPut(key, 1));
                leaves(() -> deskSeen(falling, 4, true, 6, true), OUTSIDE, x -> x.viewPut(key, 1));
            }
        }
    }

    @Edge(promise = 15, says = "OUTSIDE for an end that is not in, and nothing is changed")
    static void viewPutAtAnEnd() {
        for (boolean falling : BOTH) {
            leaves(() -> deskSeen(falling, 4, false, 6, true, 4, 5, 6), OUTSIDE, x -> x.viewPut(4, 1));
            leaves(() -> deskSeen(falling, 4, true, 6, false, 4, 5, 6), OUTSIDE, x -> x.viewPut(6, 1));
            is(deskSeen(falling, 4, false, 6, true, 4, 5, 6).viewPut(6, 1), 60);
            is(deskSeen(falling, 4, true, 6, false, 4, 5, 6).viewPut(4, 1), 40);
        }
    }

    @Edge(promise = 15, says = "OUTSIDE for each key, if the range has none")
    static void viewPutInARangeWithoutKeys() {
        for (int key : new int[] {MIN, 4, 5, 6, MAX}) {
            leaves(() -> deskSeen(false, 5, true, 5, false, 5), OUTSIDE, x -> x.viewPut(key, 1));
            leaves(() -> deskSeen(false, 5, false, 5, true, 5), OUTSIDE, x -> x.viewPut(key, 1));
            leaves(() -> deskSeen(true, 5, false, 5, false, 5), OUTSIDE, x -> x.viewPut(key, 1));
        }
    }

    @Edge(promise = 15, says = "keys at both ends of int")
    static void viewPutAtTheEndsOfInt() {
        OrderedDesk all = desk();
        is(all.viewPut(MIN, 1), NOTHING);
        is(all.viewPut(MAX, 2), NOTHING);
        is(all.viewPut(MIN, 3), 1);
        mapIs(all, "MIN=3 MAX=2");
        is(deskSeen(false, MIN, true, MAX, true).viewPut(MIN, 1), NOTHING);
        is(deskSeen(false, MIN, true, MAX, true).viewPut(MAX, 1), NOTHING);
        is(deskSeen(false, MIN, false, MAX, false).viewPut(MIN, 1), OUTSIDE);
        is(deskSeen(false, MIN, false, MAX, false).viewPut(MAX, 1), OUTSIDE);
    }

    @Edge(promise = 16, says = "as get: the value, or NOTHING")
    static void viewGetInTheRange() {
        for (boolean falling : BOTH) {
            OrderedDesk x = deskSeen(falling, 4, true, 8, true, 4, 6, 8);
            is(x.viewGet(4), 40);
            is(x.viewGet(6), 60);
            is(x.viewGet(8), 80);
            is(x.viewGet(5), NOTHING);
            is(x.viewGet(7), NOTHING);
        }
    }

    @Edge(promise = 16, says = "NOTHING if the key is not in the range, too")
    static void viewGetOutsideTheRange() {
        for (boolean falling : BOTH) {
            leaves(() -> fourToSix(falling), NOTHING, x -> x.viewGet(3));
            leaves(() -> fourToSix(falling), NOTHING, x -> x.viewGet(7));
            is(deskSeen(falling, 4, false, 6, false, 4, 5, 6).viewGet(4), NOTHING);
            is(deskSeen(falling, 4, false, 6, false, 4, 5, 6).viewGet(6), NOTHING);
            is(deskSeen(falling, 4, false, 6, false, 4, 5, 6).viewGet(5), 50);
        }
    }

    @Edge(promise = 16, says = "a view without entries, and the ends of int")
    static void viewGetAtTheEdges() {
        for (Supplier<OrderedDesk> make : EMPTY_VIEWS) {
            is(make.get().viewGet(5), NOTHING);
        }
        is(desk(MIN, MAX).viewGet(MIN), 0);
        is(desk(MIN, MAX).viewGet(MAX), -10);
        is(deskSeen(false, MIN, false, MAX, false, MIN, MAX).viewGet(MIN), NOTHING);
        is(deskSeen(false, MIN, false, MAX, false, MIN, MAX).viewGet(MAX), NOTHING);
    }

    @Edge(promise = 17, says = "as remove: its value, or NOTHING")
    static void viewRemoveInTheRange() {
        for (boolean falling : BOTH) {
            OrderedDesk x = fourToSix(falling);
            is(x.viewRemove(4), 40);
            is(x.viewRemove(4), NOTHING);
            is(x.viewRemove(6), 60);
            viewIs(x, "5");
            is(x.viewRemove(5), 50);
            mapIs(x, "3=30 7=70");
            is(x.viewRemove(5), NOTHING);
        }
    }

    @Edge(promise = 17, says = "NOTHING if the key is not in the range, too, and it does not go")
    static void viewRemoveOutsideTheRange() {
        for (boolean falling : BOTH) {
            leaves(() -> fourToSix(falling), NOTHING, x -> x.viewRemove(3));
            leaves(() -> fourToSix(falling), NOTHING, x -> x.viewRemove(7));
            leaves(() -> deskSeen(falling, 4, false, 6, true, 4, 5, 6), NOTHING, x -> x.viewRemove(4));
            leaves(() -> deskSeen(falling, 4, true, 6, false, 4, 5, 6), NOTHING, x -> x.viewRemove(6));
        }
    }

    @Edge(promise = 17, says = "a view without entries, and the ends of int")
    static void viewRemoveAtTheEdges() {
        for (Supplier<OrderedDesk> make : EMPTY_VIEWS) {
            leaves(make, NOTHING, x -> x.viewRemove(5));
        }
        OrderedDesk x = desk(MIN, MAX);
        is(x.viewRemove(MIN), 0);
        is(x.viewRemove(MAX), -10);
        mapIs(x, "");
        is(deskSeen(false, MIN, false, MAX, false, MIN, MAX).viewRemove(MIN), NOTHING);
        is(deskSeen(false, MIN, false, MAX, false, MIN, MAX).viewRemove(MAX), NOTHING);
    }

    /** The keys 10 to 60; the view has 20 to 50, in the order that is told. */
    private static OrderedDesk tens(boolean falling) {
        return deskSeen(falling, 20, true, 50, true, 10, 20, 30, 40, 50, 60);
    }

    private static void viewNearIs(boolean falling, int what, int[] keys, long... want) {
        for (int i = 0; i < keys.length; i++) {
            is(tens(falling).viewNear(what, keys[i]), want[i]);
        }
    }

    private static final int[] ASKED = {MIN, 10, 19, 20, 21, 30, 49, 50, 51, 60, MAX};

    @Edge(promise = 18, says = "what 0, rising: the last not behind key")
    static void viewNearNotBehindRising() {
        viewNearIs(false, 0, ASKED, NOTHING, NOTHING, NOTHING, 20, 20, 30, 40, 50, 50, 50, 50);
    }

    @Edge(promise = 18, says = "what 0, falling: the last not behind key")
    static void viewNearNotBehindFalling() {
        viewNearIs(true, 0, ASKED, 20, 20, 20, 20, 30, 30, 50, 50, NOTHING, NOTHING, NOTHING);
    }

    @Edge(promise = 18, says = "what 1, rising: the first not before it")
    static void viewNearNotBeforeRising() {
        viewNearIs(false, 1, ASKED, 20, 20, 20, 20, 30, 30, 50, 50, NOTHING, NOTHING, NOTHING);
    }

    @Edge(promise = 18, says = "what 1, falling: the first not before it")
    static void viewNearNotBeforeFalling() {
        viewNearIs(true, 1, ASKED, NOTHING, NOTHING, NOTHING, 20, 20, 30, 40, 50, 50, 50, 50);
    }

    @Edge(promise = 18, says = "what 2, rising: the last before it")
    static void viewNearBeforeRising() {
        viewNearIs(false, 2, ASKED, NOTHING, NOTHING, NOTHING, NOTHING, 20, 20, 40, 40, 50, 50, 50);
    }

    @Edge(promise = 18, says = "what 2, falling: the last before it")
    static void viewNearBeforeFalling() {
        viewNearIs(true, 2, ASKED, 20, 20, 20, 30, 30, 40, 50, NOTHING, NOTHING, NOTHING, NOTHING);
    }

    @Edge(promise = 18, says = "what 3, rising: the first behind it")
    static void viewNearBehindRising() {
        viewNearIs(false, 3, ASKED, 20, 20, 20, 30, 30, 40, 50, NOTHING, NOTHING, NOTHING, NOTHING);
    }

    @Edge(promise = 18, says = "what 3, falling: the first behind it")
    static void viewNearBehindFalling() {
        viewNearIs(true, 3, ASKED, NOTHING, NOTHING, NOTHING, NOTHING, 20, 20, 40, 40, 50, 50, 50);
    }

    @Edge(promise = 18, says = "4: the first of all, 5: the last of all, in both orders, whatever the key")
    static void viewNearFirstAndLast() {
        for (int key : ASKED) {
            is(tens(false).viewNear(4, key), 20);
            is(tens(false).viewNear(5, key), 50);
            is(tens(true).viewNear(4, key), 50);
            is(tens(true).viewNear(5, key), 20);
        }
    }

    @Edge(promise = 18, says = "or NOTHING: a view without entries")
    static void viewNearOfNone() {
        for (Supplier<OrderedDesk> make : EMPTY_VIEWS) {
            for (int what = 0; what <= 5; what++) {
                for (int key : new int[] {MIN, 3, 4, 5, 6, 7, MAX}) {
                    is(make.get().viewNear(what, key), NOTHING);
                }
            }
        }
    }

    @Edge(promise = 18, says = "a key of the view: an end that is not in is none")
    static void viewNearAtEndsThatAreNotIn() {
        for (boolean falling : BOTH) {
            for (int what = 0; what <= 5; what++) {
                OrderedDesk x = deskSeen(falling, 20, false, 40, false, 20, 30, 40);
                boolean not20 = what == (falling ? 1 : 0) || what == (falling ? 3 : 2);
                boolean not40 = what == (falling ? 0 : 1) || what == (falling ? 2 : 3);
                is(x.viewNear(what, 20), not20 ? NOTHING : 30);
                is(x.viewNear(what, 40), not40 ? NOTHING : 30);
            }
        }
    }

    @Edge(promise = 18, says = "the ends of int do not wrap, in both orders")
    static void viewNearTheEndsOfInt() {
        long[] atMinRising = {MIN, MIN, NOTHING, MAX};
        long[] atMaxRising = {MAX, MAX, MIN, NOTHING};
        long[] atMinFalling = {MIN, MIN, MAX, NOTHING};
        long[] atMaxFalling = {MAX, MAX, NOTHING, MIN};
        for (int what = 0; what <= 3; what++) {
            is(desk(MIN, MAX).viewNear(what, MIN), atMinRising[what]);
            is(desk(MIN, MAX).viewNear(what, MAX), atMaxRising[what]);
            is(turned(desk(MIN, MAX)).viewNear(what, MIN), atMinFalling[what]);
            is(turned(desk(MIN, MAX)).viewNear(what, MAX), atMaxFalling[what]);
        }
    }

    @Edge(promise = 18, says = "another what is not told of: NOTHING, as for near")
    static void viewNearAnotherWhat() {
        for (boolean falling : BOTH) {
            for (int what : new int[] {MIN, -1, 6, 7, MAX}) {
                is(tens(falling).viewNear(what, 30), NOTHING);
            }
        }
    }

    @Edge(promise = 18, says = "every small range, each what and key, in both orders, by the words of the promise")
    static void viewNearInEverySmallCase() {
        for (int code = 0; code < 7 * 7 * 4; code++) {
            int low = code % 7;
            int high = code / 7 % 7;
            boolean lowIn = code / 49 % 2 == 0;
            boolean highIn = code / 98 == 0;
            for (int asked = -1; low <= high && asked <= 7; asked++) {
                viewNearInEveryWay(false, low, lowIn, high, highIn, asked);
                viewNearInEveryWay(true, low, lowIn, high, highIn, asked);
            }
        }
    }

    private static void viewNearInEveryWay(boolean falling, int low, boolean lowIn, int high, boolean highIn,
            int asked) {
        long[] want = {NOTHING, NOTHING, NOTHING, NOTHING, NOTHING, NOTHING};
        for (int i = 0; i <= 6; i++) {
            int key = falling ? 6 - i : i;
            // Only the keys 1, 3, 4 and 5 are there.
            boolean there = key == 1 || key == 3 || key == 4 || key == 5;
            if (!there || key < low || key > high || key == low && !lowIn || key == high && !highIn) {
                continue;
            }
            int behind = falling ? asked - key : key - asked;
            want[0] = behind <= 0 ? key : want[0];
            want[1] = behind >= 0 && want[1] == NOTHING ? key : want[1];
            want[2] = behind < 0 ? key : want[2];
            want[3] = behind > 0 && want[3] == NOTHING ? key : want[3];
            want[4] = want[4] == NOTHING ? key : want[4];
            want[5] = key;
        }
        OrderedDesk x = deskSeen(falling, low, lowIn, high, highIn, 1, 3, 4, 5);
        for (int what = 0; what <= 5; what++) {
            is(x.viewNear(what, asked), want[what]);
        }
    }

    @Edge(promise = 19, says = "the view's first entry goes from the map: its key")
    static void viewPollFirst() {
        OrderedDesk rising = fourToSix(false);
        is(rising.viewPoll(false), 4);
        mapIs(rising, "3=30 5=50 6=60 7=70");
        OrderedDesk falling = fourToSix(true);
        is(falling.viewPoll(false), 6);
        mapIs(falling, "3=30 4=40 5=50 7=70");
    }

    @Edge(promise = 19, says = "(last: last)")
    static void viewPollLast() {
        OrderedDesk rising = fourToSix(false);
        is(rising.viewPoll(true), 6);
        mapIs(rising, "3=30 4=40 5=50 7=70");
        OrderedDesk falling = fourToSix(true);
        is(falling.viewPoll(true), 4);
        mapIs(falling, "3=30 5=50 6=60 7=70");
    }

    @Edge(promise = 19, says = "or NOTHING, and no entry goes")
    static void viewPollOfNone() {
        for (Supplier<OrderedDesk> make : EMPTY_VIEWS) {
            leaves(make, NOTHING, x -> x.viewPoll(false));
            leaves(make, NOTHING, x -> x.viewPoll(true));
        }
    }

    @Edge(promise = 19, says = "or NOTHING, when the last one has gone")
    static void viewPollUntilNone() {
        for (boolean falling : BOTH) {
            for (boolean last : BOTH) {
                OrderedDesk x = fourToSix(falling);
                boolean fromAbove = falling != last;
                is(x.viewPoll(last), fromAbove ? 6 : 4);
                is(x.viewPoll(last), 5);
                is(x.viewPoll(last), fromAbove ? 4 : 6);
                is(x.viewPoll(last), NOTHING);
                mapIs(x, "3=30 7=70");
            }
        }
    }

    @Edge(promise = 19, says = "keys at both ends of int")
    static void viewPollOfTheEndsOfInt() {
        for (boolean falling : BOTH) {
            OrderedDesk x = deskSeen(falling, MIN, true, MAX, true, MIN, MAX);
            is(x.viewPoll(falling), MIN);
            is(x.viewPoll(false), MAX);
            mapIs(x, "");
        }
    }

    @Edge(promise = 20, says = "the k-th key of the view, from 0, in its order")
    static void viewKeyInItsOrder() {
        is(fourToSix(false).viewKey(0), 4);
        is(fourToSix(false).viewKey(1), 5);
        is(fourToSix(true).viewKey(0), 6);
        is(fourToSix(true).viewKey(1), 5);
        is(desk(MIN, MAX).viewKey(0), MIN);
        is(turned(desk(MIN, MAX)).viewKey(0), MAX);
    }

    @Edge(promise = 20, says = "the last k")
    static void viewKeyLast() {
        is(fourToSix(false).viewKey(2), 6);
        is(fourToSix(true).viewKey(2), 4);
        is(desk(MIN, MAX).viewKey(1), MAX);
        is(turned(desk(MIN, MAX)).viewKey(1), MIN);
    }

    @Edge(promise = 20, says = "or NOTHING: one too large, and far too large")
    static void viewKeyTooLarge() {
        for (boolean falling : BOTH) {
            is(fourToSix(falling).viewKey(3), NOTHING);
            is(fourToSix(falling).viewKey(4), NOTHING);
            is(fourToSix(falling).viewKey(511), NOTHING);
            is(fourToSix(falling).viewKey(512), NOTHING);
            is(fourToSix(falling).viewKey(MAX), NOTHING);
        }
    }

    @Edge(promise = 20, says = "or NOTHING: k below 0")
    static void viewKeyBelowZero() {
        for (boolean falling : BOTH) {
            is(fourToSix(falling).viewKey(-1), NOTHING);
            is(fourToSix(falling).viewKey(-2), NOTHING);
            is(fourToSix(falling).viewKey(MIN), NOTHING);
        }
    }

    @Edge(promise = 20, says = "or NOTHING: a view without entries")
    static void viewKeyOfNone() {
        for (Supplier<OrderedDesk> make : EMPTY_VIEWS) {
            is(make.get().viewKey(0), NOTHING);
            is(make.get().viewKey(1), NOTHING);
            is(make.get().viewKey(-1), NOTHING);
        }
    }

    @Edge(promise = 21, says = "the sum of key times its place in the view, from 1, rising and falling")
    static void walkInItsOrder() {
        is(fourToSix(false).walk(), 4 + 2 * 5 + 3 * 6);
        is(fourToSix(true).walk(), 6 + 2 * 5 + 3 * 4);
        is(desk(-3, -1, 0, 2).walk(), -3 - 2 + 0 + 8);
        is(turned(desk(-3, -1, 0, 2)).walk(), 2 + 0 - 3 - 12);
        is(desk(7).walk(), 7);
    }

    @Edge(promise = 21, says = "64 bits: one place times a key does not fit an int")
    static void walkBeyondInt() {
        is(desk(MAX - 1, MAX).walk(), 2147483646L + 2 * 2147483647L);
        is(turned(desk(MAX - 1, MAX)).walk(), 2147483647L + 2 * 2147483646L);
        is(desk(MIN, MIN + 1).walk(), -2147483648L - 2 * 2147483647L);
        is(turned(desk(MIN, MIN + 1)).walk(), -2147483647L - 2 * 2147483648L);
        is(desk(MIN, MAX).walk(), -2147483648L + 2 * 2147483647L);
    }

    @Edge(promise = 21, says = "64 bits, as far as 512 calls can bring it: up and down")
    static void walkAsFarAsItGoes() {
        OrderedDesk up = new OrderedDesk();
        OrderedDesk down = new OrderedDesk();
        long sumUp = 0;
        long sumDown = 0;
        for (int i = 0; i < 511; i++) {
            up.put(MAX - i, 0);
            down.put(MIN + i, 0);
            sumUp += (2147483647L - i) * (511 - i);
            sumDown += (-2147483648L + i) * (i + 1);
        }
        is(up.walk(), sumUp);
        is(down.walk(), sumDown);
    }

    @Edge(promise = 21, says = "64 bits, falling, as far as 512 calls can bring it")
    static void walkAsFarAsItGoesFalling() {
        OrderedDesk down = new OrderedDesk();
        long sum = 0;
        for (int i = 0; i < 510; i++) {
            down.put(MIN + i, 0);
            sum += (-2147483648L + i) * (510 - i);
        }
        is(down.turn(), 510);
        is(down.walk(), sum);
    }

    @Edge(promise = 21, says = "over all of it, and of it alone: an empty view")
    static void walkOfNone() {
        for (Supplier<OrderedDesk> make : EMPTY_VIEWS) {
            leaves(make, 0, OrderedDesk::walk);
        }
    }

    @Edge(promise = 22, says = "all entries of the view whose keys leave rest go: how many")
    static void sweepOfSome() {
        for (boolean falling : BOTH) {
            OrderedDesk x = deskSeen(falling, 2, true, 8, true, 1, 2, 3, 4, 5, 6, 7, 8, 9);
            is(x.sweep(3, 1), 2);
            mapIs(x, "1=10 2=20 3=30 5=50 6=60 8=80 9=90");
            is(x.sweep(3, 1), 0);
            is(x.sweep(3, 0), 2);
            mapIs(x, "1=10 2=20 5=50 8=80 9=90");
            is(x.sweep(1, 0), 3);
            mapIs(x, "1=10 9=90");
        }
    }

    @Edge(promise = 22, says = "-1 if step is below 1, and no entry goes")
    static void sweepBelowOne() {
        for (boolean falling : BOTH) {
            for (int step : new int[] {MIN, -2, -1, 0}) {
                leaves(() -> fourToSix(falling), -1, x -> x.sweep(step, 0));
                leaves(() -> fourToSix(falling), -1, x -> x.sweep(step, 1));
            }
        }
    }

    @Edge(promise = 22, says = "-1 if step is below 1, of an empty view, too")
    static void sweepBelowOneOfNone() {
        for (Supplier<OrderedDesk> make : EMPTY_VIEWS) {
            leaves(make, -1, x -> x.sweep(0, 0));
            leaves(make, -1, x -> x.sweep(-1, 0));
        }
    }

    @Edge(promise = 22, says = "step 1: every key leaves 0")
    static void sweepByOne() {
        is(desk(MIN, -1, 0, 1, MAX).sweep(1, 0), 5);
        is(desk(MIN, -1, 0, 1, MAX).sweep(1, 1), 0);
        is(desk(MIN, -1, 0, 1, MAX).sweep(1, -1), 0);
    }

    @Edge(promise = 22, says = "(rounded down): keys below 0 leave a rest that is not below 0")
    static void sweepOfKeysBelowZero() {
        OrderedDesk x = desk(-8, -7, -6, -5, -4, -3, -2, -1);
        is(x.sweep(4, 1), 2);
        mapIs(x, "-8=-80 -6=-60 -5=-50 -4=-40 -2=-20 -1=-10");
        is(x.sweep(4, 3), 2);
        mapIs(x, "-8=-80 -6=-60 -4=-40 -2=-20");
        is(x.sweep(4, 2), 2);
        is(x.sweep(4, 0), 2);
        mapIs(x, "");
    }

    @Edge(promise = 22, says = "(rounded down): keys and steps at the ends of int")
    static void sweepAtTheEndsOfInt() {
        is(desk(MIN).sweep(2, 0), 1);
        is(desk(MIN).sweep(3, 1), 1);
        is(desk(MIN).sweep(7, 5), 1);
        is(desk(MAX).sweep(2, 1), 1);
        is(desk(MIN).sweep(MAX, MAX - 1), 1);
        is(desk(MIN + 1).sweep(MAX, 0), 1);
        is(desk(-1).sweep(MAX, MAX - 1), 1);
        is(desk(MAX).sweep(MAX, 0), 1);
        is(desk(MAX - 1).sweep(MAX, MAX - 1), 1);
    }

    @Edge(promise = 22, says = "a rest that no key leaves: below 0, the step itself, and above it")
    static void sweepOfARestThatNoKeyLeaves() {
        int[] keys = {-6, -5, -4, -3, -2, -1, 0, 1, 2, 3, 4, 5, 6};
        for (int rest : new int[] {MIN, -3, -2, -1, 3, 4, 6, MAX}) {
            OrderedDesk x = desk(keys);
            is(x.sweep(3, rest), 0);
            is(x.size(), 13);
        }
    }

    @Edge(promise = 22, says = "an empty view: none go")
    static void sweepOfNone() {
        for (Supplier<OrderedDesk> make : EMPTY_VIEWS) {
            leaves(make, 0, x -> x.sweep(1, 0));
        }
    }

    @Edge(promise = 22, says = "of the view: the ends that are not in stay")
    static void sweepStaysInTheView() {
        for (boolean falling : BOTH) {
            OrderedDesk x = deskSeen(falling, 2, false, 8, false, 0, 2, 4, 6, 8, 10);
            is(x.sweep(2, 0), 2);
            mapIs(x, "0=0 2=20 8=80 10=100");
            rangeIs(x, "3 4 5 6 7");
        }
    }

    @Edge(promise = 23, says = "all entries of the view go: how many")
    static void viewClearOfSome() {
        for (boolean falling : BOTH) {
            OrderedDesk x = fourToSix(falling);
            is(x.viewClear(), 3);
            mapIs(x, "3=30 7=70");
            is(x.viewClear(), 0);
            OrderedDesk notIn = deskSeen(falling, 4, false, 6, false, 3, 4, 5, 6, 7);
            is(notIn.viewClear(), 1);
            mapIs(notIn, "3=30 4=40 6=60 7=70");
        }
        OrderedDesk all = desk(MIN, 0, MAX);
        is(all.viewClear(), 3);
        mapIs(all, "");
    }

    @Edge(promise = 23, says = "an empty view: no entry goes")
    static void viewClearOfNone() {
        for (Supplier<OrderedDesk> make : EMPTY_VIEWS) {
            leaves(make, 0, OrderedDesk::viewClear);
        }
    }

    @Edge(promise = 23, says = "the range and the order stay")
    static void viewClearLeavesTheRange() {
        for (boolean falling : BOTH) {
            OrderedDesk x = fourToSix(falling);
            x.viewClear();
            rangeIs(x, "4 5 6");
            x.put(4, 1);
            x.put(6, 1);
            viewIs(x, falling ? "6 4" : "4 6");
        }
    }

    /** The keys 1 to count; the view is 7 to 9, 9 not in, in the order that is told. */
    private static OrderedDesk many(int count, boolean falling) {
        OrderedDesk x = new OrderedDesk();
        for (int key = 1; key <= count; key++) {
            x.put(key, key * 2);
        }
        x.look(3, 7, true, 9, false);
        if (falling) {
            x.turn();
        }
        return x;
    }

    @Edge(promise = 24, says = "the view is all of it, rising: its size")
    static void againSeesAll() {
        for (boolean falling : BOTH) {
            OrderedDesk x = deskSeen(falling, 4, false, 6, false, MIN, 4, 5, 6, MAX);
            is(x.again(), 5);
            viewIs(x, "MIN 4 5 6 MAX");
            rangeIs(x, "MIN -1 0 1 2 3 4 5 6 7 8 9 10 11 MAX");
            is(x.narrow(3, MIN, true, MAX, true), 0);
        }
    }

    @Edge(promise = 24, says = "the map is built from what it has, in order")
    static void againKeepsTheEntries() {
        OrderedDesk x = desk(9, 1, 5);
        x.put(5, -7);
        x.put(MIN, MAX);
        is(x.again(), 4);
        mapIs(x, "MIN=MAX 1=10 5=-7 9=90");
        x.put(3, 33);
        viewIs(x, "MIN 1 3 5 9");
    }

    @Edge(promise = 24, says = "an empty map")
    static void againOfNone() {
        is(desk().again(), 0);
        OrderedDesk x = deskSeen(true, 4, true, 6, true);
        is(x.again(), 0);
        x.put(1, 1);
        x.put(9, 9);
        viewIs(x, "1 9");
    }

    @Edge(promise = 24, says = "exactly 100 entries: it is done")
    static void againOfOneHundred() {
        for (boolean falling : BOTH) {
            OrderedDesk x = many(100, falling);
            is(x.again(), 100);
            is(x.viewSize(), 100);
            is(x.viewKey(0), 1);
            is(x.viewKey(99), 100);
            is(x.get(100), 200);
        }
        is(many(99, true).again(), 99);
    }

    @Edge(promise = 24, says = "-1, and nothing is done, with more than 100 entries")
    static void againOfMoreThanOneHundred() {
        for (boolean falling : BOTH) {
            for (int count : new int[] {101, 102, 200, 400}) {
                OrderedDesk x = many(count, falling);
                is(x.again(), -1);
                is(x.size(), count);
                is(x.get(count), count * 2);
                viewIs(x, falling ? "8 7" : "7 8");
                rangeIs(x, "7 8");
            }
        }
        OrderedDesk first = new OrderedDesk();
        for (int i = 0; i < 511; i++) {
            first.put(i, i);
        }
        is(first.again(), -1);
    }

    @Edge(promise = 24, says = "the entries of the map are counted, not those of the view")
    static void againCountsTheMap() {
        OrderedDesk x = many(101, false);
        x.look(3, 500, true, 600, true);
        is(x.again(), -1);
        is(x.viewSize(), 0);
        x.remove(50);
        is(x.viewSize(), 0);
        is(x.again(), 100);
        is(x.viewSize(), 100);
        x.put(50, 1);
        is(x.again(), -1);
    }
}
