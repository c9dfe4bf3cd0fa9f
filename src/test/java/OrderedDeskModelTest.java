import java.util.ArrayList;
import java.util.Iterator;
import java.util.List;
import java.util.NavigableMap;
import java.util.TreeMap;

// Long runs of mixed calls, each answer held against the Java library's TreeMap and its views.
public final class OrderedDeskModelTest {
    private static final long NOTHING = 1099511627776L;
    private static final long OUTSIDE = 1099511627777L;
    private static final int RUNS = 4000;
    private static final int CALLS = 512;
    private static final int MOST_TOLD = 20;

    private static int wrong = 0;

    /** Numbers that are the same in every run of the test. */
    private static final class Dice {
        private long state;

        Dice(long seed) {
            state = seed * 2862933555777941757L + 3037000493L;
        }

        int below(int bound) {
            state = state * 6364136223846793005L + 1442695040888963407L;
            return (int) ((state >>> 33) % bound);
        }

        boolean coin() {
            return below(2) == 0;
        }

        int key(int spread) {
            switch (below(24)) {
                case 0:
                    return Integer.MIN_VALUE + below(2);
                case 1:
                    return Integer.MAX_VALUE - below(2);
                default:
                    return below(spread) - spread / 2;
            }
        }
    }

    private static final class Model {
        TreeMap<Integer, Integer> map = new TreeMap<>();
        NavigableMap<Integer, Integer> view = map;

        static long told(Integer number) {
            return number == null ? NOTHING : number;
        }

        static long near(NavigableMap<Integer, Integer> in, int what, int key) {
            switch (what) {
                case 0:
                    return told(in.floorKey(key));
                case 1:
                    return told(in.ceilingKey(key));
                case 2:
                    return told(in.lowerKey(key));
                case 3:
                    return told(in.higherKey(key));
                case 4:
                    return in.isEmpty() ? NOTHING : in.firstKey();
                case 5:
                    return in.isEmpty() ? NOTHING : in.lastKey();
                default:
                    return NOTHING;
            }
        }

        static long poll(NavigableMap<Integer, Integer> in, boolean last) {
            var gone = last ? in.pollLastEntry() : in.pollFirstEntry();
            return gone == null ? NOTHING : gone.getKey();
        }

        static NavigableMap<Integer, Integer> part(NavigableMap<Integer, Integer> of, int kind,
                int from, boolean fromIn, int to, boolean toIn) {
            try {
                switch (kind) {
                    case 0:
                        return of;
                    case 1:
                        return of.headMap(to, toIn);
                    case 2:
                        return of.tailMap(from, fromIn);
                    case 3:
                        return of.subMap(from, fromIn, to, toIn);
                    default:
                        return null;
                }
            } catch (IllegalArgumentException refused) {
                return null;
            }
        }

        int look(int kind, int from, boolean fromIn, int to, boolean toIn) {
            var part = part(map, kind, from, fromIn, to, toIn);
            view = part == null ? view : part;
            return part == null ? 1 : 0;
        }

        int narrow(int kind, int from, boolean fromIn, int to, boolean toIn) {
            var part = part(view, kind, from, fromIn, to, toIn);
            view = part == null ? view : part;
            return part == null ? 1 : 0;
        }

        int turn() {
            view = view.descendingMap();
            return view.size();
        }

        long viewPut(int key, int value) {
            try {
                return told(view.put(key, value));
            } catch (IllegalArgumentException refused) {
                return OUTSIDE;
            }
        }

        long viewKey(int k) {
            List<Integer> keys = new ArrayList<>(view.keySet());
            return k < 0 || k >= keys.size() ? NOTHING : keys.get(k);
        }

        long walk() {
            long sum = 0;
            long place = 1;
            for (int key : view.keySet()) {
                sum += key * place;
                place++;
            }
            return sum;
        }

        int sweep(int step, int rest) {
            if (step < 1) {
                return -1;
            }
            int gone = 0;
            for (Iterator<Integer> it = view.keySet().iterator(); it.hasNext(); ) {
                if (Math.floorMod(it.next(), step) == rest) {
                    it.remove();
                    gone++;
                }
            }
            return gone;
        }

        int clear(NavigableMap<Integer, Integer> in) {
            int gone = in.size();
            in.clear();
            return gone;
        }

        int again() {
            if (map.size() > 100) {
                return -1;
            }
            map = new TreeMap<>(map);
            view = map;
            return map.size();
        }
    }

    public static void main(String[] args) {
        for (int run = 0; run < RUNS; run++) {
            oneRun(run);
        }
        System.out.println(wrong == 0 ? "all answers are the model's" : wrong + " answers are not the model's");
        if (wrong != 0) {
            System.exit(1);
        }
    }

    private static void oneRun(int run) {
        Dice dice = new Dice(run);
        OrderedDesk desk = new OrderedDesk();
        Model model = new Model();
        int spread = new int[] {6, 20, 80, 400}[run % 4];
        boolean growing = run % 3 == 0;
        for (int call = 0; call < CALLS; call++) {
            // A growing run seldom takes away, so that it comes to hold more than 100 entries.
            int choice = growing && dice.below(3) != 0 ? 0 : dice.below(32);
            boolean same = choice < 16
                ? changeOrAskMap(choice, desk, model, dice, spread)
                : changeOrAskView(choice, desk, model, dice, spread);
            if (!same) {
                wrong++;
                if (wrong <= MOST_TOLD) {
                    System.out.println("run " + run + ", call " + call + ", choice " + choice + " is wrong");
                }
                return;
            }
        }
    }

    private static boolean changeOrAskMap(int choice, OrderedDesk desk, Model model, Dice dice, int spread) {
        int key = dice.key(spread);
        int number = dice.key(10);
        int what = dice.below(9) - 1;
        boolean coin = dice.coin();
        switch (choice) {
            case 5:
                return desk.add(key, number) == Model.told(model.map.putIfAbsent(key, number));
            case 6:
                return desk.get(key) == Model.told(model.map.get(key));
            case 7:
                return desk.remove(key) == Model.told(model.map.remove(key));
            case 8:
                return desk.has(0, key) == model.map.containsKey(key) && !desk.has(what + 3, key);
            case 9:
                return desk.has(1, number) == model.map.containsValue(number);
            case 10:
            case 11:
                return desk.near(what, key) == Model.near(model.map, what, key);
            case 12:
                return desk.poll(coin) == Model.poll(model.map, coin);
            case 13:
                return desk.size() == model.map.size();
            case 14:
                return dice.below(16) != 0 || desk.clear() == model.clear(model.map);
            case 15:
                return dice.below(4) != 0 || desk.again() == model.again();
            default:
                return desk.put(key, number) == Model.told(model.map.put(key, number));
        }
    }

    private static boolean changeOrAskView(int choice, OrderedDesk desk, Model model, Dice dice, int spread) {
        int key = dice.key(spread);
        int number = dice.key(10);
        int what = dice.below(9) - 1;
        int kind = dice.below(12) == 0 ? dice.key(10) : dice.below(4);
        int other = dice.coin() ? key + dice.below(spread) : dice.key(spread);
        boolean fromIn = dice.coin();
        boolean toIn = dice.coin();
        switch (choice) {
            case 16:
                return desk.look(kind, key, fromIn, other, toIn) == model.look(kind, key, fromIn, other, toIn);
            case 17:
            case 18:
                return desk.narrow(kind, key, fromIn, other, toIn) == model.narrow(kind, key, fromIn, other, toIn);
            case 19:
                return desk.turn() == model.turn();
            case 20:
                return desk.viewSize() == model.view.size();
            case 21:
            case 22:
                return desk.viewPut(key, number) == model.viewPut(key, number);
            case 23:
                return desk.viewGet(key) == Model.told(model.view.get(key));
            case 24:
                return desk.viewRemove(key) == Model.told(model.view.remove(key));
            case 25:
            case 26:
                return desk.viewNear(what, key) == Model.near(model.view, what, key);
            case 27:
                return desk.viewPoll(fromIn) == Model.poll(model.view, fromIn);
            case 28:
                return desk.viewKey(number) == model.viewKey(number);
            case 29:
                return desk.walk() == model.walk();
            case 30:
                return desk.sweep(what + 2, number) == model.sweep(what + 2, number);
            default:
                return dice.below(8) != 0 || desk.viewClear() == model.clear(model.view);
        }
    }
}
