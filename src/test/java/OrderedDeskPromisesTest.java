// One method for each promise of the document: ordinary inputs, the edges it names, wrong inputs.
public final class OrderedDeskPromisesTest {
    private static final long NOTHING = 1099511627776L;
    private static final long OUTSIDE = 1099511627777L;
    private static final int MIN = Integer.MIN_VALUE;
    private static final int MAX = Integer.MAX_VALUE;

    private static int wrong = 0;
    private static int promise = 0;

    public static void main(String[] args) {
        promise = 1;
        newObject();
        promise = 2;
        put();
        promise = 3;
        add();
        promise = 4;
        get();
        promise = 5;
        remove();
        promise = 6;
        has();
        promise = 7;
        near();
        promise = 8;
        poll();
        promise = 9;
        size();
        promise = 10;
        clear();
        promise = 11;
        look();
        lookRefused();
        promise = 12;
        narrowRising();
        narrowFalling();
        narrowAtTheEnds();
        narrowRefused();
        promise = 13;
        turn();
        promise = 14;
        viewSize();
        promise = 15;
        viewPut();
        promise = 16;
        viewGet();
        promise = 17;
        viewRemove();
        promise = 18;
        viewNearRising();
        viewNearFalling();
        promise = 19;
        viewPoll();
        promise = 20;
        viewKey();
        promise = 21;
        walk();
        promise = 22;
        sweep();
        promise = 23;
        viewClear();
        promise = 24;
        again();
        promise = 0;
        fullUse();
        System.out.println(wrong == 0 ? "all promises hold" : wrong + " answers are not as due");
        if (wrong != 0) {
            System.exit(1);
        }
    }

    private static void due(String call, long got, long want) {
        if (got != want) {
            wrong++;
            System.out.println("promise " + promise + ": " + call + " answered " + got + ", due is " + want);
        }
    }

    private static void due(String call, boolean got, boolean want) {
        due(call, got ? 1 : 0, want ? 1 : 0);
    }

    /** Each key has ten times itself as its value. */
    private static OrderedDesk desk(int... keys) {
        OrderedDesk x = new OrderedDesk();
        for (int key : keys) {
            x.put(key, key * 10);
        }
        return x;
    }

    private static void mapIs(OrderedDesk x, int... keys) {
        due("size()", x.size(), keys.length);
        long key = x.near(4, 0);
        for (int want : keys) {
            due("the map's next key", key, want);
            key = key == NOTHING ? NOTHING : x.near(3, (int) key);
        }
        due("the map's end", key, NOTHING);
    }

    private static void viewIs(OrderedDesk x, int... keys) {
        due("viewSize()", x.viewSize(), keys.length);
        for (int k = 0; k < keys.length; k++) {
            due("viewKey(" + k + ")", x.viewKey(k), keys[k]);
        }
        due("viewKey(" + keys.length + ")", x.viewKey(keys.length), NOTHING);
    }

    private static void newObject() {
        OrderedDesk x = new OrderedDesk();
        mapIs(x);
        viewIs(x);
        due("viewPut(MIN, 1)", x.viewPut(MIN, 1), NOTHING);
        due("viewPut(MAX, 2)", x.viewPut(MAX, 2), NOTHING);
        viewIs(x, MIN, MAX);
        due("another object's size()", new OrderedDesk().size(), 0);
    }

    private static void put() {
        OrderedDesk x = new OrderedDesk();
        due("put(3, 30)", x.put(3, 30), NOTHING);
        due("put(3, 31)", x.put(3, 31), 30);
        due("put(3, -1)", x.put(3, -1), 31);
        due("put(3, 0)", x.put(3, 0), -1);
        due("put(MAX, MIN)", x.put(MAX, MIN), NOTHING);
        due("put(MIN, MAX)", x.put(MIN, MAX), NOTHING);
        due("put(MAX, 1)", x.put(MAX, 1), MIN);
        due("put(MIN, 1)", x.put(MIN, 1), MAX);
        mapIs(x, MIN, 3, MAX);
        x.look(3, 1, true, 2, true);
        due("put(9, 9) with another view", x.put(9, 9), NOTHING);
        mapIs(x, MIN, 3, 9, MAX);
    }

    private static void add() {
        OrderedDesk x = desk(5);
        due("add(5, 7)", x.add(5, 7), 50);
        due("get(5)", x.get(5), 50);
        due("add(4, 7)", x.add(4, 7), NOTHING);
        due("get(4)", x.get(4), 7);
        due("add(0, 0)", x.add(0, 0), NOTHING);
        due("add(0, 8)", x.add(0, 8), 0);
        due("get(0)", x.get(0), 0);
        mapIs(x, 0, 4, 5);
    }

    private static void get() {
        OrderedDesk x = desk(5, -5, 0);
        due("get(5)", x.get(5), 50);
        due("get(-5)", x.get(-5), -50);
        due("get(0)", x.get(0), 0);
        due("get(4)", x.get(4), NOTHING);
        due("get(MAX)", x.get(MAX), NOTHING);
        due("get(MIN)", x.get(MIN), NOTHING);
        x.look(3, 1, true, 2, true);
        due("get(5) with another view", x.get(5), 50);
        mapIs(x, -5, 0, 5);
    }

    private static void remove() {
        OrderedDesk x = desk(1, 2, 3, 4);
        due("remove(2)", x.remove(2), 20);
        due("remove(2)", x.remove(2), NOTHING);
        due("remove(9)", x.remove(9), NOTHING);
        mapIs(x, 1, 3, 4);
        due("get(3)", x.get(3), 30);
        due("get(4)", x.get(4), 40);
        x.look(3, 7, true, 8, true);
        due("remove(4) with another view", x.remove(4), 40);
        due("remove(1)", x.remove(1), 10);
        mapIs(x, 3);
    }

    private static void has() {
        OrderedDesk x = desk(1, 2);
        due("has(0, 1)", x.has(0, 1), true);
        due("has(0, 10)", x.has(0, 10), false);
        due("has(0, 0)", x.has(0, 0), false);
        due("has(1, 20)", x.has(1, 20), true);
        due("has(1, 2)", x.has(1, 2), false);
        due("has(1, 0)", x.has(1, 0), false);
        due("has(2, 1)", x.has(2, 1), false);
        due("has(-1, 1)", x.has(-1, 1), false);
        due("has(MAX, 10)", x.has(MAX, 10), false);
        x.put(7, 20);
        x.remove(2);
        due("has(1, 20), of another key", x.has(1, 20), true);
        x.remove(7);
        due("has(1, 20), gone", x.has(1, 20), false);
        due("has(0, 7), gone", x.has(0, 7), false);
    }

    private static void near() {
        OrderedDesk x = desk(10, 20, 30);
        nearIs(x, 20, 20, 20, 10, 30);
        nearIs(x, 25, 20, 30, 20, 30);
        nearIs(x, 10, 10, 10, NOTHING, 20);
        nearIs(x, 30, 30, 30, 20, NOTHING);
        nearIs(x, MIN, NOTHING, 10, NOTHING, 10);
        nearIs(x, MAX, 30, NOTHING, 30, NOTHING);
        due("near(4, 99)", x.near(4, 99), 10);
        due("near(5, -99)", x.near(5, -99), 30);
        due("near(6, 20)", x.near(6, 20), NOTHING);
        due("near(-1, 20)", x.near(-1, 20), NOTHING);
        x.look(3, 15, true, 25, true);
        x.turn();
        nearIs(x, 20, 20, 20, 10, 30);
        due("near(4, 0), whatever the view", x.near(4, 0), 10);
        OrderedDesk edges = desk(MIN, MAX);
        nearIs(edges, MIN, MIN, MIN, NOTHING, MAX);
        nearIs(edges, MAX, MAX, MAX, MIN, NOTHING);
        OrderedDesk none = desk();
        nearIs(none, 0, NOTHING, NOTHING, NOTHING, NOTHING);
        due("near(4, 0) of none", none.near(4, 0), NOTHING);
        due("near(5, 0) of none", none.near(5, 0), NOTHING);
    }

    private static void nearIs(OrderedDesk x, int key, long... want) {
        for (int what = 0; what < want.length; what++) {
            due("near(" + what + ", " + key + ")", x.near(what, key), want[what]);
        }
    }

    private static void poll() {
        OrderedDesk x = desk(1, 2, 3, 4);
        x.look(3, 2, true, 3, true);
        x.turn();
        due("poll(false)", x.poll(false), 1);
        due("poll(true)", x.poll(true), 4);
        mapIs(x, 2, 3);
        due("poll(true)", x.poll(true), 3);
        due("poll(false)", x.poll(false), 2);
        due("poll(false) of none", x.poll(false), NOTHING);
        due("poll(true) of none", x.poll(true), NOTHING);
        mapIs(x);
    }

    private static void size() {
        OrderedDesk x = desk(1, 2, 2, 3);
        due("size()", x.size(), 3);
        x.look(3, 2, true, 2, true);
        due("size() with another view", x.size(), 3);
        x.remove(1);
        due("size()", x.size(), 2);
    }

    private static void clear() {
        OrderedDesk x = desk(1, 2, 3);
        x.look(3, 2, true, 5, false);
        due("clear()", x.clear(), 3);
        due("clear()", x.clear(), 0);
        mapIs(x);
        due("viewPut(1, 1), the range stays", x.viewPut(1, 1), OUTSIDE);
        due("viewPut(2, 1)", x.viewPut(2, 1), NOTHING);
        due("get(3)", x.get(3), NOTHING);
    }

    private static void look() {
        OrderedDesk x = desk(MIN, 1, 2, 3, 4, 5, MAX);
        due("look 1", x.look(1, 0, false, 3, true), 0);
        viewIs(x, MIN, 1, 2, 3);
        due("look 1, not in", x.look(1, 0, false, 3, false), 0);
        viewIs(x, MIN, 1, 2);
        due("look 2", x.look(2, 3, true, 0, false), 0);
        viewIs(x, 3, 4, 5, MAX);
        due("look 2, not in", x.look(2, 3, false, 0, false), 0);
        viewIs(x, 4, 5, MAX);
        due("look 3", x.look(3, 2, true, 4, true), 0);
        viewIs(x, 2, 3, 4);
        due("look 3, not in", x.look(3, 2, false, 4, false), 0);
        viewIs(x, 3);
        x.turn();
        due("look 0", x.look(0, 3, false, 2, false), 0);
        viewIs(x, MIN, 1, 2, 3, 4, 5, MAX);
        x.turn();
        due("look 3 of a turned view is rising", x.look(3, 2, true, 3, true), 0);
        viewIs(x, 2, 3);
        due("look to MIN", x.look(1, 0, true, MIN, true), 0);
        viewIs(x, MIN);
        due("look behind MAX", x.look(2, MAX, false, 0, true), 0);
        viewIs(x);
        due("look to MAX", x.look(3, 5, false, MAX, true), 0);
        viewIs(x, MAX);
    }

    private static void lookRefused() {
        OrderedDesk x = desk(1, 2, 3, 4, 5);
        x.look(3, 2, true, 4, true);
        x.turn();
        due("look from above to", x.look(3, 4, true, 3, true), 1);
        due("look MAX to MIN", x.look(3, MAX, true, MIN, true), 1);
        due("look -1", x.look(-1, 1, true, 5, true), 1);
        due("look 4", x.look(4, 1, true, 5, true), 1);
        due("look MIN", x.look(MIN, 1, true, 5, true), 1);
        viewIs(x, 4, 3, 2);
        due("look 3, 3 in", x.look(3, 3, true, 3, true), 0);
        viewIs(x, 3);
        due("look 3, 3 half in", x.look(3, 3, true, 3, false), 0);
        viewIs(x);
        due("look 3, 3 not in", x.look(3, 3, false, 3, false), 0);
        viewIs(x);
    }

    private static void narrowRising() {
        OrderedDesk x = desk(1, 2, 3, 4, 5, 6, 7, 8, 9);
        due("narrow 0", x.narrow(0, 9, true, 1, true), 0);
        viewIs(x, 1, 2, 3, 4, 5, 6, 7, 8, 9);
        due("narrow 2", x.narrow(2, 2, true, 0, true), 0);
        viewIs(x, 2, 3, 4, 5, 6, 7, 8, 9);
        due("narrow 1", x.narrow(1, 0, true, 8, false), 0);
        viewIs(x, 2, 3, 4, 5, 6, 7);
        due("narrow 3", x.narrow(3, 2, false, 6, true), 0);
        viewIs(x, 3, 4, 5, 6);
        due("narrow 0", x.narrow(0, 0, true, 0, true), 0);
        viewIs(x, 3, 4, 5, 6);
        due("look is of the whole map", x.look(1, 0, true, 2, true), 0);
        viewIs(x, 1, 2);
    }

    private static void narrowFalling() {
        OrderedDesk x = desk(1, 2, 3, 4, 5, 6, 7, 8, 9);
        x.turn();
        due("narrow 2", x.narrow(2, 8, true, 0, true), 0);
        viewIs(x, 8, 7, 6, 5, 4, 3, 2, 1);
        due("narrow 1", x.narrow(1, 0, true, 2, false), 0);
        viewIs(x, 8, 7, 6, 5, 4, 3);
        due("narrow 3", x.narrow(3, 7, false, 4, true), 0);
        viewIs(x, 6, 5, 4);
        due("narrow 3, from behind to", x.narrow(3, 4, true, 6, true), 1);
        viewIs(x, 6, 5, 4);
        due("narrow 3, from in and the end", x.narrow(3, 7, true, 4, true), 1);
        due("narrow 0", x.narrow(0, 0, true, 0, true), 0);
        viewIs(x, 6, 5, 4);
        x.turn();
        viewIs(x, 4, 5, 6);
        due("narrow 3, turned back", x.narrow(3, 4, true, 5, true), 0);
        viewIs(x, 4, 5);
    }

    private static void narrowAtTheEnds() {
        OrderedDesk x = desk(4, 5, 6, 7);
        x.look(3, 4, false, 7, false);
        due("from an end not in, in", x.narrow(2, 4, true, 0, true), 1);
        due("to an end not in, in", x.narrow(1, 0, true, 7, true), 1);
        due("from an end not in, not in", x.narrow(2, 4, false, 0, true), 0);
        due("to an end not in, not in", x.narrow(1, 0, true, 7, false), 0);
        viewIs(x, 5, 6);
        due("from before the end, not in", x.narrow(2, 3, false, 0, true), 1);
        due("to behind the end, not in", x.narrow(1, 0, true, 8, false), 1);
        viewIs(x, 5, 6);
        due("to the first end, not in", x.narrow(1, 0, true, 4, false), 0);
        viewIs(x);
        due("both ends the same, not in", x.narrow(3, 4, false, 4, false), 0);
        due("both ends the same, in", x.narrow(3, 4, true, 4, true), 1);
        due("the range went on to be empty", x.viewPut(4, 1), OUTSIDE);
        x.look(3, 4, true, 4, false);
        due("half in: the end in", x.narrow(2, 4, true, 0, true), 1);
        due("half in: the end not in", x.narrow(2, 4, false, 0, true), 0);
        viewIs(x);
    }

    private static void narrowRefused() {
        OrderedDesk x = desk(1, 2, 3, 4, 5);
        due("narrow -1", x.narrow(-1, 2, true, 3, true), 1);
        due("narrow 4", x.narrow(4, 2, true, 3, true), 1);
        due("narrow MAX", x.narrow(MAX, 2, true, 3, true), 1);
        due("from behind to", x.narrow(3, 4, true, 3, true), 1);
        viewIs(x, 1, 2, 3, 4, 5);
        x.narrow(3, 2, true, 4, true);
        due("from before the range", x.narrow(3, 1, true, 3, true), 1);
        due("to behind the range", x.narrow(3, 3, true, 5, true), 1);
        due("from behind the range", x.narrow(2, 5, true, 0, true), 1);
        due("to before the range", x.narrow(1, 0, true, 1, true), 1);
        due("from MIN", x.narrow(2, MIN, false, 0, true), 1);
        due("to MAX", x.narrow(1, 0, true, MAX, false), 1);
        viewIs(x, 2, 3, 4);
        due("an end that is not told is free", x.narrow(1, 99, true, 3, true), 0);
        viewIs(x, 2, 3);
        due("an end that is not told is free", x.narrow(2, 3, true, -99, true), 0);
        viewIs(x, 3);
    }

    private static void turn() {
        OrderedDesk x = desk(1, 2, 3, 4);
        due("turn()", x.turn(), 4);
        viewIs(x, 4, 3, 2, 1);
        due("turn()", x.turn(), 4);
        viewIs(x, 1, 2, 3, 4);
        x.look(3, 1, false, 3, true);
        due("turn()", x.turn(), 2);
        viewIs(x, 3, 2);
        mapIs(x, 1, 2, 3, 4);
        due("turn() of none", new OrderedDesk().turn(), 0);
    }

    private static void viewSize() {
        OrderedDesk x = desk(1, 2, 3);
        due("viewSize()", x.viewSize(), 3);
        x.look(2, 2, true, 0, true);
        due("viewSize()", x.viewSize(), 2);
        x.put(4, 4);
        due("viewSize() after a put in the range", x.viewSize(), 3);
        x.put(0, 0);
        due("viewSize() after a put outside", x.viewSize(), 3);
        x.remove(2);
        due("viewSize() after a remove", x.viewSize(), 2);
        x.look(3, 3, false, 3, false);
        due("viewSize() of an empty range", x.viewSize(), 0);
    }

    private static void viewPut() {
        OrderedDesk x = desk(1, 5, 9);
        x.look(3, 3, true, 7, false);
        due("viewPut(3, 33)", x.viewPut(3, 33), NOTHING);
        due("viewPut(5, 55)", x.viewPut(5, 55), 50);
        due("viewPut(7, 77)", x.viewPut(7, 77), OUTSIDE);
        due("viewPut(2, 22)", x.viewPut(2, 22), OUTSIDE);
        due("viewPut(1, 11)", x.viewPut(1, 11), OUTSIDE);
        due("viewPut(MIN, 0)", x.viewPut(MIN, 0), OUTSIDE);
        due("viewPut(MAX, 0)", x.viewPut(MAX, 0), OUTSIDE);
        mapIs(x, 1, 3, 5, 9);
        due("get(1)", x.get(1), 10);
        due("get(5)", x.get(5), 55);
        x.turn();
        due("viewPut(6, 66)", x.viewPut(6, 66), NOTHING);
        due("viewPut(7, 77)", x.viewPut(7, 77), OUTSIDE);
        viewIs(x, 6, 5, 3);
    }

    private static void viewGet() {
        OrderedDesk x = desk(1, 5, 9);
        x.look(3, 1, false, 9, true);
        due("viewGet(1)", x.viewGet(1), NOTHING);
        due("viewGet(5)", x.viewGet(5), 50);
        due("viewGet(6)", x.viewGet(6), NOTHING);
        due("viewGet(9)", x.viewGet(9), 90);
        due("viewGet(MAX)", x.viewGet(MAX), NOTHING);
        x.put(5, 51);
        due("viewGet(5)", x.viewGet(5), 51);
    }

    private static void viewRemove() {
        OrderedDesk x = desk(1, 5, 9);
        x.look(3, 1, false, 9, true);
        due("viewRemove(1)", x.viewRemove(1), NOTHING);
        due("viewRemove(6)", x.viewRemove(6), NOTHING);
        due("viewRemove(9)", x.viewRemove(9), 90);
        due("viewRemove(9)", x.viewRemove(9), NOTHING);
        mapIs(x, 1, 5);
        due("viewRemove(5)", x.viewRemove(5), 50);
        mapIs(x, 1);
    }

    private static void viewNearRising() {
        OrderedDesk x = desk(10, 20, 30, 40, 50);
        x.look(3, 20, true, 40, true);
        viewNearIs(x, 30, 30, 30, 20, 40, 20, 40, NOTHING);
        viewNearIs(x, 25, 20, 30, 20, 30, 20, 40, NOTHING);
        viewNearIs(x, 20, 20, 20, NOTHING, 30, 20, 40, NOTHING);
        viewNearIs(x, 40, 40, 40, 30, NOTHING, 20, 40, NOTHING);
        viewNearIs(x, 10, NOTHING, 20, NOTHING, 20, 20, 40, NOTHING);
        viewNearIs(x, 50, 40, NOTHING, 40, NOTHING, 20, 40, NOTHING);
        viewNearIs(x, MIN, NOTHING, 20, NOTHING, 20, 20, 40, NOTHING);
        viewNearIs(x, MAX, 40, NOTHING, 40, NOTHING, 20, 40, NOTHING);
        due("viewNear(-1, 30)", x.viewNear(-1, 30), NOTHING);
        x.look(3, 20, false, 40, false);
        viewNearIs(x, 20, NOTHING, 30, NOTHING, 30, 30, 30, NOTHING);
        viewNearIs(x, 40, 30, NOTHING, 30, NOTHING, 30, 30, NOTHING);
        x.look(3, 20, false, 20, false);
        viewNearIs(x, 20, NOTHING, NOTHING, NOTHING, NOTHING, NOTHING, NOTHING, NOTHING);
    }

    private static void viewNearFalling() {
        OrderedDesk x = desk(10, 20, 30, 40, 50);
        x.look(3, 20, true, 40, true);
        x.turn();
        viewNearIs(x, 30, 30, 30, 40, 20, 40, 20, NOTHING);
        viewNearIs(x, 25, 30, 20, 30, 20, 40, 20, NOTHING);
        viewNearIs(x, 20, 20, 20, 30, NOTHING, 40, 20, NOTHING);
        viewNearIs(x, 40, 40, 40, NOTHING, 30, 40, 20, NOTHING);
        viewNearIs(x, 10, 20, NOTHING, 20, NOTHING, 40, 20, NOTHING);
        viewNearIs(x, 50, NOTHING, 40, NOTHING, 40, 40, 20, NOTHING);
        viewNearIs(x, MIN, 20, NOTHING, 20, NOTHING, 40, 20, NOTHING);
        viewNearIs(x, MAX, NOTHING, 40, NOTHING, 40, 40, 20, NOTHING);
        due("viewNear(-1, 30)", x.viewNear(-1, 30), NOTHING);
        due("viewNear(7, 30)", x.viewNear(7, 30), NOTHING);
    }

    private static void viewNearIs(OrderedDesk x, int key, long... want) {
        for (int what = 0; what < want.length; what++) {
            due("viewNear(" + what + ", " + key + ")", x.viewNear(what, key), want[what]);
        }
    }

    private static void viewPoll() {
        OrderedDesk x = desk(1, 2, 3, 4, 5, 6, 7);
        x.look(3, 2, true, 6, true);
        due("viewPoll(false)", x.viewPoll(false), 2);
        due("viewPoll(true)", x.viewPoll(true), 6);
        x.turn();
        due("viewPoll(false), falling", x.viewPoll(false), 5);
        due("viewPoll(true), falling", x.viewPoll(true), 3);
        mapIs(x, 1, 4, 7);
        due("viewPoll(true)", x.viewPoll(true), 4);
        due("viewPoll(true) of none", x.viewPoll(true), NOTHING);
        due("viewPoll(false) of none", x.viewPoll(false), NOTHING);
        mapIs(x, 1, 7);
        x.look(3, 1, false, 1, false);
        due("viewPoll(false) of an empty range", x.viewPoll(false), NOTHING);
        due("viewPoll(true) of an empty range", x.viewPoll(true), NOTHING);
        mapIs(x, 1, 7);
    }

    private static void viewKey() {
        OrderedDesk x = desk(MIN, 2, 3, 4, MAX);
        due("viewKey(0)", x.viewKey(0), MIN);
        due("viewKey(4)", x.viewKey(4), MAX);
        due("viewKey(5)", x.viewKey(5), NOTHING);
        due("viewKey(-1)", x.viewKey(-1), NOTHING);
        x.look(3, 2, true, 3, true);
        due("viewKey(1)", x.viewKey(1), 3);
        due("viewKey(2)", x.viewKey(2), NOTHING);
        due("viewKey(-1)", x.viewKey(-1), NOTHING);
        x.turn();
        due("viewKey(0), falling", x.viewKey(0), 3);
        due("viewKey(1), falling", x.viewKey(1), 2);
        due("viewKey(2), falling", x.viewKey(2), NOTHING);
        due("viewKey(-1), falling", x.viewKey(-1), NOTHING);
        due("viewKey(MIN)", x.viewKey(MIN), NOTHING);
        due("viewKey(MAX)", x.viewKey(MAX), NOTHING);
    }

    private static void walk() {
        OrderedDesk x = desk(-7, 2, 3, 5, 100);
        due("walk()", x.walk(), -7 + 2 * 2 + 3 * 3 + 4 * 5 + 5 * 100);
        x.look(3, 2, true, 5, true);
        due("walk()", x.walk(), 2 + 2 * 3 + 3 * 5);
        x.turn();
        due("walk(), falling", x.walk(), 5 + 2 * 3 + 3 * 2);
        OrderedDesk far = desk(MAX - 1, MAX);
        due("walk(), past an int", far.walk(), 2147483646L + 2 * 2147483647L);
        due("walk() of none", new OrderedDesk().walk(), 0);
    }

    private static void sweep() {
        OrderedDesk x = desk(-7, -6, -5, -4, -3, -2, -1, 0, 1, 2, 3, 4, 5, 6, 7);
        x.look(3, -6, true, 6, false);
        due("sweep(0, 0)", x.sweep(0, 0), -1);
        due("sweep(-1, 0)", x.sweep(-1, 0), -1);
        due("sweep(MIN, 0)", x.sweep(MIN, 0), -1);
        due("sweep(3, 3)", x.sweep(3, 3), 0);
        due("sweep(3, -1)", x.sweep(3, -1), 0);
        due("size()", x.size(), 15);
        due("sweep(3, 2)", x.sweep(3, 2), 4);
        mapIs(x, -7, -6, -5, -3, -2, 0, 1, 3, 4, 6, 7);
        due("get(7)", x.get(7), 70);
        x.turn();
        due("sweep(3, 0), falling", x.sweep(3, 0), 4);
        mapIs(x, -7, -5, -2, 1, 4, 6, 7);
        due("sweep(1, 0)", x.sweep(1, 0), 4);
        mapIs(x, -7, 6, 7);
        due("get(6)", x.get(6), 60);
        OrderedDesk edges = desk(MIN, -1, MAX);
        due("sweep(MAX, MAX - 1)", edges.sweep(MAX, MAX - 1), 2);
        mapIs(edges, MAX);
        due("sweep(MAX, 0)", edges.sweep(MAX, 0), 1);
    }

    private static void viewClear() {
        OrderedDesk x = desk(1, 2, 3, 4, 5);
        x.look(3, 2, true, 4, true);
        due("viewClear()", x.viewClear(), 3);
        due("viewClear()", x.viewClear(), 0);
        mapIs(x, 1, 5);
        due("get(5)", x.get(5), 50);
        due("viewPut(5, 0), the range stays", x.viewPut(5, 0), OUTSIDE);
        x.look(3, 5, false, 5, false);
        due("viewClear() of an empty range", x.viewClear(), 0);
        x.look(2, 5, true, 0, true);
        x.turn();
        due("viewClear(), falling", x.viewClear(), 1);
        mapIs(x, 1);
    }

    private static void again() {
        OrderedDesk x = desk(1, 2, 3);
        x.look(3, 2, true, 3, false);
        x.turn();
        due("again()", x.again(), 3);
        viewIs(x, 1, 2, 3);
        mapIs(x, 1, 2, 3);
        due("get(2)", x.get(2), 20);
        due("viewPut(MAX, 1)", x.viewPut(MAX, 1), NOTHING);
        due("again() of none", new OrderedDesk().again(), 0);
        OrderedDesk many = new OrderedDesk();
        for (int key = 1; key <= 100; key++) {
            many.put(key, key);
        }
        many.turn();
        due("again() of 100", many.again(), 100);
        due("viewKey(0)", many.viewKey(0), 1);
        many.put(101, 101);
        many.look(3, 7, true, 9, true);
        many.turn();
        due("again() of 101", many.again(), -1);
        viewIs(many, 9, 8, 7);
        due("size()", many.size(), 101);
    }

    /** What a full object answers is due up to its 512th call; behind it, it must only not throw. */
    private static void fullUse() {
        OrderedDesk x = new OrderedDesk();
        for (int i = 0; i < 511; i++) {
            due("put of call " + (i + 1), x.put(-i, i), NOTHING);
        }
        due("viewPut of call 512", x.viewPut(-511, 511), NOTHING);
        for (int i = 512; i < 600; i++) {
            x.put(-i, i);
            x.add(i, i);
            x.viewPut(i + 1000, i);
            x.walk();
            x.sweep(600, i);
            x.viewNear(i % 7, i);
        }
    }
}
