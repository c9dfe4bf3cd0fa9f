// The edges that the document names in 'What it is', 'Terms' and promises 1 to 10, each by itself.
public final class OrderedDeskMapEdgesTest extends EdgeTests {
    public static void main(String[] args) {
        run(OrderedDeskMapEdgesTest.class, 0, 10);
    }

    /** After 511 calls: the keys 0 to 510, put in the order that the factor gives, values below 0. */
    private static OrderedDesk full(int factor) {
        OrderedDesk x = new OrderedDesk();
        for (int i = 0; i < 511; i++) {
            int key = i * factor % 511;
            is(x.put(key, -key), NOTHING);
        }
        return x;
    }

    @Edge(promise = 0, says = "at most 512 calls: the 512th asks the map, which has 511 entries")
    static void lastCallAsksTheMap() {
        for (int factor : new int[] {1, 2, 510}) {
            is(full(factor).size(), 511);
            is(full(factor).get(510), -510);
            is(full(factor).get(511), NOTHING);
            is(full(factor).has(0, 510), true);
            is(full(factor).has(1, -510), true);
            is(full(factor).has(1, 510), false);
            is(full(factor).near(2, MAX), 510);
            is(full(factor).near(3, 509), 510);
            is(full(factor).near(3, 510), NOTHING);
        }
    }

    @Edge(promise = 0, says = "at most 512 calls: the 512th changes the map, which has 511 entries")
    static void lastCallChangesTheMap() {
        for (int factor : new int[] {1, 2, 510}) {
            is(full(factor).put(-1, 5), NOTHING);
            is(full(factor).put(510, 5), -510);
            is(full(factor).add(511, 5), NOTHING);
            is(full(factor).add(510, 5), -510);
            is(full(factor).remove(510), -510);
            is(full(factor).poll(false), 0);
            is(full(factor).poll(true), 510);
            is(full(factor).clear(), 511);
            is(full(factor).again(), -1);
        }
    }

    @Edge(promise = 0, says = "at most 512 calls: the 512th asks the view, which has 511 entries")
    static void lastCallAsksTheView() {
        for (int factor : new int[] {1, 2, 510}) {
            is(full(factor).viewSize(), 511);
            is(full(factor).viewGet(510), -510);
            is(full(factor).viewNear(5, 0), 510);
            is(full(factor).viewKey(510), 510);
            is(full(factor).viewKey(511), NOTHING);
            is(full(factor).turn(), 511);
            is(full(factor).look(2, 510, true, 0, true), 0);
            is(full(factor).narrow(2, 510, true, 0, true), 0);
        }
    }

    @Edge(promise = 0, says = "at most 512 calls: the 512th changes the view, which has 511 entries")
    static void lastCallChangesTheView() {
        for (int factor : new int[] {1, 2, 510}) {
            is(full(factor).viewPut(511, 5), NOTHING);
            is(full(factor).viewPut(510, 5), -510);
            is(full(factor).viewRemove(510), -510);
            is(full(factor).viewPoll(false), 0);
            is(full(factor).viewPoll(true), 510);
            is(full(factor).sweep(2, 0), 256);
            is(full(factor).viewClear(), 511);
        }
    }

    @Edge(promise = 0, says = "at most 512 calls: entries that went take no room")
    static void entriesThatWentTakeNoRoom() {
        OrderedDesk x = new OrderedDesk();
        for (int i = 0; i < 128; i++) {
            is(x.put(i, 1), NOTHING);
            is(x.remove(i), 1);
            is(x.viewPut(-i, 2), NOTHING);
            is(i == 127 ? x.size() : x.viewPoll(true), i == 127 ? 1 : -i);
        }
    }

    @Edge(promise = 0, says = "what later calls answer is free, but none throws")
    static void noCallThrowsWhenFull() {
        OrderedDesk x = full(1);
        for (int key = 511; key < 600; key++) {
            x.put(key, key);
            x.add(-key, key);
            x.viewPut(key * 2, key);
        }
        callAll(x);
    }

    @Edge(promise = 0, says = "no call throws, for any arguments, in any state")
    static void noCallThrows() {
        callAll(desk());
        callAll(desk(MIN, -1, 0, 1, MAX));
        for (boolean falling : BOTH) {
            callAll(deskSeen(falling, 0, false, 0, false, MIN, -1, 0, 1, MAX));
            callAll(deskSeen(falling, MIN, false, MAX, false, MIN, -1, 0, 1, MAX));
            callAll(deskSeen(falling, MIN, false, MIN, false, MIN, -1, 0, 1, MAX));
            callAll(deskSeen(falling, MAX, false, MAX, false, MIN, -1, 0, 1, MAX));
        }
    }

    private static void callAll(OrderedDesk x) {
        int[] odd = {MIN, -1, 0, 1, 3, 6, MAX};
        for (int a : odd) {
            for (int b : odd) {
                x.has(a, b);
                x.near(a, b);
                x.viewNear(a, b);
            }
            x.narrow(3, a, false, -a, false);
            x.look(a, a, true, MAX, true);
            x.sweep(a, a);
            x.viewKey(a);
            x.viewGet(a);
            x.viewRemove(a);
            x.viewPut(a, a);
            x.walk();
            x.turn();
        }
        x.viewPoll(true);
        x.viewPoll(false);
        x.viewClear();
        x.poll(true);
        x.again();
        x.clear();
    }

    @Edge(promise = 0, says = "each a key and a value, ints")
    static void keysAndValuesAreInts() {
        OrderedDesk x = new OrderedDesk();
        x.put(MIN, MAX);
        x.put(MAX, MIN);
        x.put(0, 0);
        x.put(-1, -1);
        mapIs(x, "MIN=MAX -1=-1 0=0 MAX=MIN");
        viewIs(x, "MIN -1 0 MAX");
    }

    @Edge(promise = 0, says = "no two have the same key")
    static void noTwoHaveTheSameKey() {
        OrderedDesk x = new OrderedDesk();
        x.put(7, 1);
        x.put(7, 2);
        x.add(7, 3);
        x.viewPut(7, 4);
        mapIs(x, "7=4");
        viewIs(x, "7");
    }

    @Edge(promise = 0, says = "two keys may have the same value")
    static void twoMayHaveTheSameValue() {
        OrderedDesk x = new OrderedDesk();
        x.put(7, 1);
        x.put(8, 1);
        mapIs(x, "7=1 8=1");
    }

    @Edge(promise = 0, says = "at first none")
    static void atFirstNone() {
        mapIs(new OrderedDesk(), "");
        viewIs(new OrderedDesk(), "");
    }

    @Edge(promise = 0, says = "the view is at first all")
    static void viewIsAtFirstAll() {
        rangeIs(new OrderedDesk(), "MIN -1 0 1 2 3 4 5 6 7 8 9 10 11 MAX");
    }

    @Edge(promise = 0, says = "the view is at first rising")
    static void viewIsAtFirstRising() {
        viewIs(desk(MAX, 3, MIN, -3), "MIN -3 3 MAX");
    }

    @Edge(promise = 0, says = "from a key on: that key is in the range, the one before it is not")
    static void rangeFromAKeyOn() {
        OrderedDesk x = desk(2, 3, 4);
        x.look(2, 3, true, 0, false);
        rangeIs(x, "3 4 5 6 7 8 9 10 11 MAX");
        viewIs(x, "3 4");
    }

    @Edge(promise = 0, says = "or behind it: that key is not in the range, the next one is")
    static void rangeBehindAKey() {
        OrderedDesk x = desk(2, 3, 4);
        x.look(2, 3, false, 0, false);
        rangeIs(x, "4 5 6 7 8 9 10 11 MAX");
        viewIs(x, "4");
    }

    @Edge(promise = 0, says = "up to a key: that key is in the range, the next one is not")
    static void rangeUpToAKey() {
        OrderedDesk x = desk(2, 3, 4);
        x.look(1, 0, false, 3, true);
        rangeIs(x, "MIN -1 0 1 2 3");
        viewIs(x, "2 3");
    }

    @Edge(promise = 0, says = "or before it: that key is not in the range, the one before it is")
    static void rangeBeforeAKey() {
        OrderedDesk x = desk(2, 3, 4);
        x.look(1, 0, false, 3, false);
        rangeIs(x, "MIN -1 0 1 2");
        viewIs(x, "2");
    }

    @Edge(promise = 0, says = "or without such an end: both ends of int are in the range")
    static void rangeWithoutAnEnd() {
        OrderedDesk x = desk();
        x.look(2, 5, true, 0, true);
        is(x.viewPut(MAX, 1), NOTHING);
        x.look(1, 0, true, 5, true);
        is(x.viewPut(MIN, 1), NOTHING);
        x.look(0, 0, true, 0, true);
        viewIs(x, "MIN MAX");
    }

    @Edge(promise = 0, says = "the range may end at both ends of int, in or not")
    static void rangeAtTheEndsOfInt() {
        OrderedDesk x = desk(MIN, 0, MAX);
        x.look(3, MIN, true, MAX, true);
        viewIs(x, "MIN 0 MAX");
        x.look(3, MIN, false, MAX, true);
        viewIs(x, "0 MAX");
        x.look(3, MIN, true, MAX, false);
        viewIs(x, "MIN 0");
        x.look(3, MIN, false, MAX, false);
        rangeIs(x, "-1 0 1 2 3 4 5 6 7 8 9 10 11");
        viewIs(x, "0");
    }

    @Edge(promise = 0, says = "it stays a view of the map: what the map gets, it gets")
    static void viewGetsWhatTheMapGets() {
        OrderedDesk x = deskSeen(true, 2, true, 6, false, 1, 3, 7);
        x.put(2, 1);
        viewIs(x, "3 2");
        x.add(5, 1);
        viewIs(x, "5 3 2");
        x.put(6, 1);
        x.add(0, 1);
        viewIs(x, "5 3 2");
        x.put(3, 99);
        is(x.viewGet(3), 99);
    }

    @Edge(promise = 0, says = "it stays a view of the map: what the map loses, it loses")
    static void viewLosesWhatTheMapLoses() {
        OrderedDesk x = deskSeen(true, 2, true, 8, false, 1, 2, 3, 4, 7, 9);
        x.remove(3);
        viewIs(x, "7 4 2");
        x.poll(false);
        viewIs(x, "7 4 2");
        x.poll(false);
        viewIs(x, "7 4");
        x.poll(true);
        viewIs(x, "7 4");
        x.poll(true);
        viewIs(x, "4");
        x.clear();
        viewIs(x, "");
    }

    @Edge(promise = 0, says = "it stays a view of the map: it fills again after all have gone")
    static void viewFillsAgain() {
        for (boolean falling : BOTH) {
            OrderedDesk x = deskSeen(falling, 2, true, 6, false, 1, 3, 5, 7);
            x.clear();
            x.put(1, 1);
            x.put(2, 2);
            x.put(4, 4);
            x.put(6, 6);
            viewIs(x, falling ? "4 2" : "2 4");
        }
    }

    @Edge(promise = 0, says = "the entries are seen and changed through the view, too")
    static void mapSeesWhatTheViewChanges() {
        OrderedDesk x = deskSeen(false, 2, true, 6, true, 1, 2, 3, 4, 5, 6, 7);
        x.viewPut(2, 22);
        x.viewRemove(3);
        x.viewPoll(true);
        mapIs(x, "1=10 2=22 4=40 5=50 7=70");
        x.sweep(2, 0);
        mapIs(x, "1=10 5=50 7=70");
        x.viewClear();
        mapIs(x, "1=10 7=70");
    }

    @Edge(promise = 0, says = "FIRST and LAST of the view are meant in its order")
    static void firstAndLastInTheViewsOrder() {
        OrderedDesk x = deskSeen(true, 2, true, 4, true, 1, 2, 3, 4, 5);
        is(x.viewNear(4, 0), 4);
        is(x.viewNear(5, 0), 2);
        is(x.viewPoll(false), 4);
        is(x.viewPoll(true), 2);
    }

    @Edge(promise = 0, says = "NOTHING: 2^40")
    static void nothingIsItsNumber() {
        is(new OrderedDesk().get(0) == 1L << 40, true);
        is(new OrderedDesk().put(0, 0) == 1L << 40, true);
        is(new OrderedDesk().viewKey(0) == 1L << 40, true);
    }

    @Edge(promise = 0, says = "OUTSIDE: 2^40 + 1")
    static void outsideIsItsNumber() {
        is(deskSeen(false, 1, true, 2, true).viewPut(3, 0) == (1L << 40) + 1, true);
    }

    @Edge(promise = 0, says = "OUTSIDE is told by calls that say so, and by no other")
    static void outsideIsToldByViewPutAlone() {
        OrderedDesk x = deskSeen(false, 4, true, 6, true, 1);
        is(x.viewGet(1), NOTHING);
        is(x.viewRemove(1), NOTHING);
        is(x.viewNear(0, 1), NOTHING);
        is(x.put(2, 20), NOTHING);
        is(x.add(3, 30), NOTHING);
        is(x.get(1), 10);
        is(x.viewPut(1, 11), OUTSIDE);
    }

    @Edge(promise = 0, says = "OUTSIDE: nothing is changed then")
    static void outsideChangesNothing() {
        for (boolean falling : BOTH) {
            leaves(() -> deskSeen(falling, 4, true, 6, true, 1, 5), OUTSIDE, x -> x.viewPut(1, 11));
            leaves(() -> deskSeen(falling, 4, true, 6, true, 1, 5), OUTSIDE, x -> x.viewPut(2, 11));
        }
    }

    @Edge(promise = 1, says = "in the state that the terms give: what the map's calls answer")
    static void newMapAnswers() {
        is(new OrderedDesk().put(0, 0), NOTHING);
        is(new OrderedDesk().add(0, 0), NOTHING);
        is(new OrderedDesk().get(0), NOTHING);
        is(new OrderedDesk().remove(0), NOTHING);
        is(new OrderedDesk().has(0, 0), false);
        is(new OrderedDesk().has(1, 0), false);
        is(new OrderedDesk().poll(false), NOTHING);
        is(new OrderedDesk().size(), 0);
        is(new OrderedDesk().clear(), 0);
        is(new OrderedDesk().again(), 0);
    }

    @Edge(promise = 1, says = "in the state that the terms give: what the view's calls answer")
    static void newViewAnswers() {
        is(new OrderedDesk().turn(), 0);
        is(new OrderedDesk().viewSize(), 0);
        is(new OrderedDesk().viewPut(0, 0), NOTHING);
        is(new OrderedDesk().viewGet(0), NOTHING);
        is(new OrderedDesk().viewRemove(0), NOTHING);
        is(new OrderedDesk().viewPoll(true), NOTHING);
        is(new OrderedDesk().viewKey(0), NOTHING);
        is(new OrderedDesk().walk(), 0);
        is(new OrderedDesk().sweep(1, 0), 0);
        is(new OrderedDesk().viewClear(), 0);
        is(new OrderedDesk().narrow(3, MIN, true, MAX, true), 0);
    }

    @Edge(promise = 1, says = "makes an object: it has nothing of another one")
    static void twoObjectsShareNothing() {
        OrderedDesk one = deskSeen(true, 1, true, 2, true, 1, 2, 3);
        OrderedDesk other = new OrderedDesk();
        mapIs(other, "");
        other.put(5, 5);
        other.put(6, 6);
        viewIs(other, "5 6");
        mapIs(one, "1=10 2=20 3=30");
        viewIs(one, "2 1");
    }

    @Edge(promise = 2, says = "NOTHING if it was not there")
    static void putOfANewKey() {
        OrderedDesk x = new OrderedDesk();
        is(x.put(5, 50), NOTHING);
        is(x.put(4, 40), NOTHING);
        is(x.put(6, 60), NOTHING);
        x.remove(5);
        is(x.put(5, 51), NOTHING);
        mapIs(x, "4=40 5=51 6=60");
    }

    @Edge(promise = 2, says = "the value it had")
    static void putOfAKeyThatIsThere() {
        OrderedDesk x = desk(4, 5, 6);
        is(x.put(5, 51), 50);
        is(x.put(5, 51), 51);
        is(x.put(5, 0), 51);
        is(x.put(5, -1), 0);
        is(x.put(5, 7), -1);
        mapIs(x, "4=40 5=7 6=60");
    }

    @Edge(promise = 2, says = "keys at both ends of int")
    static void putOfTheEndsOfInt() {
        OrderedDesk x = desk(0);
        is(x.put(MAX, 1), NOTHING);
        is(x.put(MIN, 2), NOTHING);
        is(x.put(MAX, 3), 1);
        is(x.put(MIN, 4), 2);
        mapIs(x, "MIN=4 0=0 MAX=3");
    }

    @Edge(promise = 2, says = "values at both ends of int")
    static void putOfValuesAtTheEndsOfInt() {
        OrderedDesk x = new OrderedDesk();
        is(x.put(1, MAX), NOTHING);
        is(x.put(1, MIN), MAX);
        is(x.put(1, 0), MIN);
    }

    @Edge(promise = 2, says = "the map's put has no range")
    static void putOutsideTheViewsRange() {
        OrderedDesk x = deskSeen(true, 4, true, 6, true, 5);
        is(x.put(1, 11), NOTHING);
        is(x.put(9, 99), NOTHING);
        mapIs(x, "1=11 5=50 9=99");
        rangeIs(x, "4 5 6");
    }

    @Edge(promise = 3, says = "only if it was not there: NOTHING, and it has this value then")
    static void addOfANewKey() {
        OrderedDesk x = desk(4, 6);
        is(x.add(5, 55), NOTHING);
        x.remove(4);
        is(x.add(4, 44), NOTHING);
        mapIs(x, "4=44 5=55 6=60");
    }

    @Edge(promise = 3, says = "else nothing is changed")
    static void addOfAKeyThatIsThere() {
        leaves(() -> desk(4, 5, 6), 50, x -> x.add(5, 7));
        leaves(() -> desk(0, 5, 6), 0, x -> x.add(0, 7));
        leaves(() -> deskSeen(true, 5, true, 6, true, 4, 5, 6), 40, x -> x.add(4, 7));
    }

    @Edge(promise = 3, says = "keys at both ends of int")
    static void addOfTheEndsOfInt() {
        OrderedDesk x = desk(0);
        is(x.add(MAX, 1), NOTHING);
        is(x.add(MIN, 2), NOTHING);
        is(x.add(MAX, 3), 1);
        is(x.add(MIN, 4), 2);
        mapIs(x, "MIN=2 0=0 MAX=1");
    }

    @Edge(promise = 3, says = "values at both ends of int")
    static void addOfValuesAtTheEndsOfInt() {
        OrderedDesk x = new OrderedDesk();
        is(x.add(1, MAX), NOTHING);
        is(x.add(1, 5), MAX);
        is(x.add(2, MIN), NOTHING);
        is(x.add(2, 5), MIN);
        mapIs(x, "1=MAX 2=MIN");
    }

    @Edge(promise = 3, says = "the map's add has no range")
    static void addOutsideTheViewsRange() {
        OrderedDesk x = deskSeen(false, 4, true, 6, true, 5);
        is(x.add(1, 11), NOTHING);
        is(x.add(9, 99), NOTHING);
        mapIs(x, "1=11 5=50 9=99");
    }

    @Edge(promise = 4, says = "the value of a key")
    static void getOfAKeyThatIsThere() {
        OrderedDesk x = desk(-3, 0, 3);
        is(x.get(-3), -30);
        is(x.get(0), 0);
        is(x.get(3), 30);
    }

    @Edge(promise = 4, says = "or NOTHING")
    static void getOfAKeyThatIsNotThere() {
        OrderedDesk x = desk(-3, 0, 3);
        is(x.get(-4), NOTHING);
        is(x.get(1), NOTHING);
        is(x.get(4), NOTHING);
        is(x.get(30), NOTHING);
        x.remove(0);
        is(x.get(0), NOTHING);
        is(desk().get(0), NOTHING);
    }

    @Edge(promise = 4, says = "keys and values at both ends of int")
    static void getOfTheEndsOfInt() {
        OrderedDesk x = desk(0);
        is(x.get(MIN), NOTHING);
        is(x.get(MAX), NOTHING);
        x.put(MIN, MAX);
        x.put(MAX, MIN);
        is(x.get(MIN), MAX);
        is(x.get(MAX), MIN);
    }

    @Edge(promise = 4, says = "it changes nothing, and has no range")
    static void getChangesNothing() {
        leaves(() -> deskSeen(true, 4, true, 6, true, 1, 5), 10, x -> x.get(1));
        leaves(() -> deskSeen(true, 4, true, 6, true, 1, 5), NOTHING, x -> x.get(4));
    }

    @Edge(promise = 5, says = "the entry of a key goes: its value")
    static void removeOfAKeyThatIsThere() {
        OrderedDesk x = desk(1, 2, 3, 4, 5);
        is(x.remove(3), 30);
        mapIs(x, "1=10 2=20 4=40 5=50");
        is(x.remove(1), 10);
        mapIs(x, "2=20 4=40 5=50");
        is(x.remove(5), 50);
        mapIs(x, "2=20 4=40");
        x.remove(2);
        is(x.remove(4), 40);
        mapIs(x, "");
    }

    @Edge(promise = 5, says = "or NOTHING")
    static void removeOfAKeyThatIsNotThere() {
        leaves(() -> desk(1, 3), NOTHING, x -> x.remove(0));
        leaves(() -> desk(1, 3), NOTHING, x -> x.remove(2));
        leaves(() -> desk(1, 3), NOTHING, x -> x.remove(4));
        leaves(() -> desk(1, 3), NOTHING, x -> x.remove(30));
        leaves(() -> desk(), NOTHING, x -> x.remove(0));
        OrderedDesk twice = desk(1);
        is(twice.remove(1), 10);
        is(twice.remove(1), NOTHING);
    }

    @Edge(promise = 5, says = "keys and values at both ends of int")
    static void removeOfTheEndsOfInt() {
        OrderedDesk x = desk(0);
        is(x.remove(MIN), NOTHING);
        is(x.remove(MAX), NOTHING);
        x.put(MIN, MAX);
        x.put(MAX, MIN);
        is(x.remove(MIN), MAX);
        is(x.remove(MAX), MIN);
        mapIs(x, "0=0");
    }

    @Edge(promise = 5, says = "the map's remove has no range")
    static void removeOutsideTheViewsRange() {
        OrderedDesk x = deskSeen(true, 4, true, 6, true, 1, 5, 9);
        is(x.remove(1), 10);
        is(x.remove(9), 90);
        mapIs(x, "5=50");
        rangeIs(x, "4 5 6");
    }

    @Edge(promise = 6, says = "whether a key (what 0) is there")
    static void hasAKey() {
        OrderedDesk x = desk(1, 5);
        is(x.has(0, 1), true);
        is(x.has(0, 5), true);
        is(x.has(0, 0), false);
        is(x.has(0, 3), false);
        is(x.has(0, 6), false);
        is(x.has(0, 10), false);
        x.remove(5);
        is(x.has(0, 5), false);
        is(desk().has(0, 0), false);
    }

    @Edge(promise = 6, says = "or a value (1)")
    static void hasAValue() {
        OrderedDesk x = desk(1, 5);
        is(x.has(1, 10), true);
        is(x.has(1, 50), true);
        is(x.has(1, 0), false);
        is(x.has(1, 1), false);
        is(x.has(1, 30), false);
        is(desk().has(1, 0), false);
    }

    @Edge(promise = 6, says = "a value is there as long as one key has it")
    static void hasAValueOfTwoKeys() {
        OrderedDesk x = desk();
        x.put(1, 7);
        x.put(2, 7);
        x.remove(1);
        is(x.has(1, 7), true);
        x.put(2, 8);
        is(x.has(1, 7), false);
        is(x.has(1, 8), true);
        x.clear();
        is(x.has(1, 8), false);
    }

    @Edge(promise = 6, says = "false for another what")
    static void hasAnotherWhat() {
        for (int what : new int[] {MIN, -1, 2, 3, MAX}) {
            OrderedDesk x = desk();
            x.put(5, 5);
            x.put(what, what);
            is(x.has(what, 5), false);
            is(x.has(what, what), false);
        }
    }

    @Edge(promise = 6, says = "keys and values at both ends of int")
    static void hasTheEndsOfInt() {
        OrderedDesk x = desk(0);
        is(x.has(0, MIN) || x.has(0, MAX) || x.has(1, MIN) || x.has(1, MAX), false);
        x.put(MIN, MAX);
        is(x.has(0, MIN), true);
        is(x.has(1, MAX), true);
        is(x.has(0, MAX), false);
        is(x.has(1, MIN), false);
        x.put(MAX, MIN);
        is(x.has(0, MAX), true);
        is(x.has(1, MIN), true);
    }

    @Edge(promise = 6, says = "it asks the map, whatever the view")
    static void hasOutsideTheViewsRange() {
        OrderedDesk x = deskSeen(true, 4, true, 6, true, 1, 9);
        is(x.has(0, 1), true);
        is(x.has(1, 90), true);
    }

    @Edge(promise = 7, says = "0: the greatest not above key")
    static void nearNotAbove() {
        OrderedDesk x = desk(-20, 10, 30);
        is(x.near(0, -21), NOTHING);
        is(x.near(0, -20), -20);
        is(x.near(0, 9), -20);
        is(x.near(0, 10), 10);
        is(x.near(0, 29), 10);
        is(x.near(0, 30), 30);
        is(x.near(0, 31), 30);
    }

    @Edge(promise = 7, says = "1: the least not below")
    static void nearNotBelow() {
        OrderedDesk x = desk(-20, 10, 30);
        is(x.near(1, -21), -20);
        is(x.near(1, -20), -20);
        is(x.near(1, -19), 10);
        is(x.near(1, 10), 10);
        is(x.near(1, 11), 30);
        is(x.near(1, 30), 30);
        is(x.near(1, 31), NOTHING);
    }

    @Edge(promise = 7, says = "2: the greatest below")
    static void nearBelow() {
        OrderedDesk x = desk(-20, 10, 30);
        is(x.near(2, -20), NOTHING);
        is(x.near(2, -19), -20);
        is(x.near(2, 10), -20);
        is(x.near(2, 11), 10);
        is(x.near(2, 30), 10);
        is(x.near(2, 31), 30);
    }

    @Edge(promise = 7, says = "3: the least above")
    static void nearAbove() {
        OrderedDesk x = desk(-20, 10, 30);
        is(x.near(3, -21), -20);
        is(x.near(3, -20), 10);
        is(x.near(3, 9), 10);
        is(x.near(3, 10), 30);
        is(x.near(3, 29), 30);
        is(x.near(3, 30), NOTHING);
    }

    @Edge(promise = 7, says = "4: the least of all, 5: the greatest of all, whatever the key")
    static void nearLeastAndGreatest() {
        for (int key : new int[] {MIN, -20, 0, 30, MAX}) {
            OrderedDesk x = desk(-20, 10, 30);
            is(x.near(4, key), -20);
            is(x.near(5, key), 30);
        }
        is(desk(7).near(4, 0), 7);
        is(desk(7).near(5, 0), 7);
    }

    @Edge(promise = 7, says = "or NOTHING: an empty map")
    static void nearInAnEmptyMap() {
        for (int what = 0; what <= 5; what++) {
            OrderedDesk emptied = desk(0);
            emptied.clear();
            for (int key : new int[] {MIN, -1, 0, 1, MAX}) {
                is(desk().near(what, key), NOTHING);
                is(emptied.near(what, key), NOTHING);
            }
        }
    }

    @Edge(promise = 7, says = "or NOTHING: the ends of int do not wrap")
    static void nearTheEndsOfInt() {
        OrderedDesk ends = desk(MIN, MAX);
        is(ends.near(0, MIN), MIN);
        is(ends.near(1, MIN), MIN);
        is(ends.near(2, MIN), NOTHING);
        is(ends.near(3, MIN), MAX);
        is(ends.near(0, MAX), MAX);
        is(ends.near(1, MAX), MAX);
        is(ends.near(2, MAX), MIN);
        is(ends.near(3, MAX), NOTHING);
        OrderedDesk middle = desk(0);
        is(middle.near(0, MIN), NOTHING);
        is(middle.near(1, MIN), 0);
        is(middle.near(2, MIN), NOTHING);
        is(middle.near(3, MIN), 0);
        is(middle.near(0, MAX), 0);
        is(middle.near(1, MAX), NOTHING);
        is(middle.near(2, MAX), 0);
        is(middle.near(3, MAX), NOTHING);
    }

    @Edge(promise = 7, says = "NOTHING for another what")
    static void nearAnotherWhat() {
        for (int what : new int[] {MIN, -1, 6, 7, MAX}) {
            is(desk(1, 2, 3).near(what, 2), NOTHING);
            is(desk(MIN, MAX).near(what, what), NOTHING);
        }
    }

    @Edge(promise = 7, says = "a key of the map, whatever the view")
    static void nearWhateverTheView() {
        OrderedDesk x = deskSeen(true, 4, true, 6, true, 1, 5, 9);
        is(x.near(0, 3), 1);
        is(x.near(1, 6), 9);
        is(x.near(2, 5), 1);
        is(x.near(3, 5), 9);
        is(x.near(4, 5), 1);
        is(x.near(5, 5), 9);
    }

    @Edge(promise = 8, says = "the least entry goes: its key")
    static void pollLeast() {
        OrderedDesk x = desk(MIN, 0, 3, MAX);
        is(x.poll(false), MIN);
        is(x.poll(false), 0);
        mapIs(x, "3=30 MAX=-10");
        is(x.poll(false), 3);
        is(x.poll(false), MAX);
    }

    @Edge(promise = 8, says = "(last: the greatest)")
    static void pollGreatest() {
        OrderedDesk x = desk(MIN, 0, 3, MAX);
        is(x.poll(true), MAX);
        is(x.poll(true), 3);
        mapIs(x, "MIN=0 0=0");
        is(x.poll(true), 0);
        is(x.poll(true), MIN);
    }

    @Edge(promise = 8, says = "or NOTHING where there is no entry")
    static void pollOfNone() {
        for (boolean last : BOTH) {
            leaves(() -> desk(), NOTHING, x -> x.poll(last));
            OrderedDesk one = desk(5);
            is(one.poll(last), 5);
            is(one.poll(last), NOTHING);
            mapIs(one, "");
        }
    }

    @Edge(promise = 8, says = "least and greatest of the map, whatever the view")
    static void pollWhateverTheView() {
        OrderedDesk x = deskSeen(true, 4, true, 6, true, 1, 4, 5, 9);
        is(x.poll(false), 1);
        is(x.poll(true), 9);
        viewIs(x, "5 4");
        is(x.poll(false), 4);
        viewIs(x, "5");
    }

    @Edge(promise = 9, says = "an empty map")
    static void sizeOfNone() {
        is(desk().size(), 0);
        OrderedDesk x = desk(1);
        x.remove(1);
        is(x.size(), 0);
        x.poll(true);
        x.remove(1);
        is(x.size(), 0);
    }

    @Edge(promise = 9, says = "how many entries the map has, not the view")
    static void sizeIsOfTheMap() {
        OrderedDesk x = deskSeen(false, 4, true, 6, true, 1, 5, 9);
        is(x.size(), 3);
        x.look(3, 2, false, 2, false);
        is(x.size(), 3);
    }

    @Edge(promise = 9, says = "a key that is put again is one entry")
    static void sizeOfAKeyPutAgain() {
        OrderedDesk x = desk(1, 2);
        x.put(1, 5);
        x.add(1, 6);
        x.viewPut(1, 7);
        is(x.size(), 2);
    }

    @Edge(promise = 10, says = "an empty map")
    static void clearOfNone() {
        leaves(() -> desk(), 0, OrderedDesk::clear);
        leaves(() -> deskSeen(true, 1, true, 5, true), 0, OrderedDesk::clear);
        OrderedDesk twice = desk(1, 2);
        is(twice.clear(), 2);
        is(twice.clear(), 0);
    }

    @Edge(promise = 10, says = "all entries go: how many there were")
    static void clearOfAll() {
        OrderedDesk x = desk(MIN, 0, MAX);
        is(x.clear(), 3);
        mapIs(x, "");
        is(x.get(MIN), NOTHING);
        is(x.put(0, 5), NOTHING);
        mapIs(x, "0=5");
    }

    @Edge(promise = 10, says = "all of the map, whatever the view, whose range and order stay")
    static void clearWhateverTheView() {
        for (boolean falling : BOTH) {
            OrderedDesk x = deskSeen(falling, 4, true, 6, true, 1, 5, 9);
            is(x.clear(), 3);
            mapIs(x, "");
            rangeIs(x, "4 5 6");
            x.put(4, 1);
            x.put(5, 1);
            viewIs(x, falling ? "5 4" : "4 5");
        }
    }
}
