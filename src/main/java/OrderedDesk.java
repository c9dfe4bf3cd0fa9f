/**
 * Pairs of keys and values in the order of their keys, and a view of a part of them, forward or
 * backward, through which they are seen and changed, too.
 */
public final class OrderedDesk {
    private static final long NOTHING = 1L << 40;
    private static final long OUTSIDE = NOTHING + 1;

    /** A call makes one entry at most, so an object never needs more of them than it has calls. */
    private static final int MOST_ENTRIES = 512;
    private static final int MOST_BUILT_ANEW = 100;

    private final Entries entries;
    private final Range whole;
    private Range range;
    private boolean falling;

    public OrderedDesk() {
        entries = new Entries();
        whole = new Range(Range.BEFORE_ALL, false, Range.BEHIND_ALL, false);
        range = whole;
        falling = false;
    }

    public long put(int key, int value) {
        return entries.store(key, value);
    }

    public long add(int key, int value) {
        long old = entries.valueOf(key);
        return old == NOTHING ? entries.store(key, value) : old;
    }

    public long get(int key) {
        return entries.valueOf(key);
    }

    public long remove(int key) {
        return entries.drop(key);
    }

    public boolean has(int what, int number) {
        switch (what) {
            case 0:
                return entries.valueOf(number) != NOTHING;
            case 1:
                return entries.holdsValue(number);
            default:
                return false;
        }
    }

    public long near(int what, int key) {
        return keyNear(what, key, 0, entries.count());
    }

    public long poll(boolean last) {
        return pollWithin(last, 0, entries.count());
    }

    public int size() {
        return entries.count();
    }

    public int clear() {
        return entries.dropPlaces(0, entries.count());
    }

    public int look(int kind, int from, boolean fromIn, int to, boolean toIn) {
        Range part = whole.part(kind, from, fromIn, to, toIn, false);
        if (part == null) {
            return 1;
        }
        range = part;
        falling = false;
        return 0;
    }

    public int narrow(int kind, int from, boolean fromIn, int to, boolean toIn) {
        Range part = range.part(kind, from, fromIn, to, toIn, falling);
        if (part == null) {
            return 1;
        }
        range = part;
        return 0;
    }

    public int turn() {
        falling = !falling;
        return viewSize();
    }

    public int viewSize() {
        return viewEnd() - viewBegin();
    }

    public long viewPut(int key, int value) {
        return range.holds(key) ? entries.store(key, value) : OUTSIDE;
    }

    public long viewGet(int key) {
        return range.holds(key) ? entries.valueOf(key) : NOTHING;
    }

    public long viewRemove(int key) {
        return range.holds(key) ? entries.drop(key) : NOTHING;
    }

    public long viewNear(int what, int key) {
        return keyNear(falling ? mirrored(what) : what, key, viewBegin(), viewEnd());
    }

    public long viewPoll(boolean last) {
        return pollWithin(last != falling, viewBegin(), viewEnd());
    }

    public long viewKey(int k) {
        int begin = viewBegin();
        int end = viewEnd();
        if (k < 0 || k >= end - begin) {
            return NOTHING;
        }
        return entries.keyAt(falling ? end - 1 - k : begin + k);
    }

    public long walk() {
        int begin = viewBegin();
        int end = viewEnd();
        long sum = 0;
        for (int i = begin; i < end; i++) {
            long place = falling ? end - i : i - begin + 1;
            sum += entries.keyAt(i) * place;
        }
        return sum;
    }

    public int sweep(int step, int rest) {
        return entries.dropLeaving(step, rest, viewBegin(), viewEnd());
    }

    public int viewClear() {
        return entries.dropPlaces(viewBegin(), viewEnd());
    }

    /** The entries always stand in order and without gaps, so only the view is left to be made. */
    public int again() {
        if (entries.count() > MOST_BUILT_ANEW) {
            return -1;
        }
        range = whole;
        falling = false;
        return entries.count();
    }

    /** The place of the least entry of the view, whatever its order. */
    private int viewBegin() {
        return entries.placeOf(range.start());
    }

    /** The place behind the greatest entry of the view. */
    private int viewEnd() {
        // A range between a key and itself, both not in, stops before it starts.
        return Math.max(viewBegin(), entries.placeOf(range.stop()));
    }

    /** What a question of near means when it is asked in falling order. */
    private static int mirrored(int what) {
        switch (what) {
            case 0:
                return 1;
            case 1:
                return 0;
            case 2:
                return 3;
            case 3:
                return 2;
            case 4:
                return 5;
            case 5:
                return 4;
            default:
                return what;
        }
    }

    /** The answer of near, in rising order, among the places from begin up to before end. */
    private long keyNear(int what, int key, int begin, int end) {
        int atLeast = entries.placeOf(key);
        int above = entries.placeOf(key + 1L);
        switch (what) {
            case 0:
                return keyWithin(Math.min(above, end) - 1, begin, end);
            case 1:
                return keyWithin(Math.max(atLeast, begin), begin, end);
            case 2:
                return keyWithin(Math.min(atLeast, end) - 1, begin, end);
            case 3:
                return keyWithin(Math.max(above, begin), begin, end);
            case 4:
                return keyWithin(begin, begin, end);
            case 5:
                return keyWithin(end - 1, begin, end);
            default:
                return NOTHING;
        }
    }

    private long keyWithin(int place, int begin, int end) {
        return place >= begin && place < end ? entries.keyAt(place) : NOTHING;
    }

    private long pollWithin(boolean greatest, int begin, int end) {
        int place = greatest ? end - 1 : begin;
        long key = keyWithin(place, begin, end);
        if (key != NOTHING) {
            entries.dropPlaces(place, place + 1);
        }
        return key;
    }

    /** The entries of the map, in rising order of their keys, at the places from 0 on. */
    private static final class Entries {
        private final int[] keys = new int[MOST_ENTRIES];
        private final int[] values = new int[MOST_ENTRIES];
        private int count = 0;

        int count() {
            return count;
        }

        /** Where the first key stands that is not below this one; a long, to ask behind all ints. */
        int placeOf(long key) {
            int place = 0;
            while (place < count && keys[place] < key) {
                place++;
            }
            return place;
        }

        long keyAt(int place) {
            return place >= 0 && place < count ? keys[place] : NOTHING;
        }

        private boolean isAt(int place, int key) {
            return place < count && keys[place] == key;
        }

        long valueOf(int key) {
            int place = placeOf(key);
            return isAt(place, key) ? values[place] : NOTHING;
        }

        boolean holdsValue(int value) {
            for (int i = 0; i < count; i++) {
                if (values[i] == value) {
                    return true;
                }
            }
            return false;
        }

        /** The value that the key had, or NOTHING. */
        long store(int key, int value) {
            int place = placeOf(key);
            if (!isAt(place, key)) {
                insert(place, key, value);
                return NOTHING;
            }
            long old = values[place];
            values[place] = value;
            return old;
        }

        private void insert(int place, int key, int value) {
            // Only an object used for longer than the document allows comes here full.
            if (count >= MOST_ENTRIES) {
                return;
            }
            for (int i = count; i > place; i--) {
                keys[i] = keys[i - 1];
                values[i] = values[i - 1];
            }
            keys[place] = key;
            values[place] = value;
            count++;
        }

        /** The value that the key had, or NOTHING. */
        long drop(int key) {
            int place = placeOf(key);
            if (!isAt(place, key)) {
                return NOTHING;
            }
            long old = values[place];
            dropPlaces(place, place + 1);
            return old;
        }

        /** All of them go, as every key leaves 0 when divided by 1: how many. */
        int dropPlaces(int begin, int end) {
            return dropLeaving(1, 0, begin, end);
        }

        /** As sweep, for the entries at the places from begin up to before end. */
        int dropLeaving(int step, int rest, int begin, int end) {
            if (step < 1) {
                return -1;
            }
            int kept = begin;
            for (int i = begin; i < count; i++) {
                boolean goes = i < end && Math.floorMod(keys[i], step) == rest;
                if (!goes) {
                    keys[kept] = keys[i];
                    values[kept] = values[i];
                    kept++;
                }
            }
            int gone = count - kept;
            count = kept;
            return gone;
        }
    }

    /** Which keys the view has; its ends are longs, so that a missing end is one no int reaches. */
    private static final class Range {
        static final long BEFORE_ALL = -2147483649L;
        static final long BEHIND_ALL = 2147483648L;

        private final long low;
        private final boolean lowIn;
        private final long high;
        private final boolean highIn;

        Range(long low, boolean lowIn, long high, boolean highIn) {
            this.low = low;
            this.lowIn = lowIn;
            this.high = high;
            this.highIn = highIn;
        }

        /** The least key that is not before the range. */
        long start() {
            return lowIn ? low : low + 1;
        }

        /** The least key that is behind the range. */
        long stop() {
            return highIn ? high + 1 : high;
        }

        boolean holds(long key) {
            return key >= start() && key < stop();
        }

        /** The part of this range that look and narrow ask for, or null where they answer 1. */
        Range part(int kind, int from, boolean fromIn, int to, boolean toIn, boolean falling) {
            if (kind < 0 || kind > 3) {
                return null;
            }
            boolean hasFrom = kind == 2 || kind == 3;
            boolean hasTo = kind == 1 || kind == 3;
            if (hasFrom && !mayEndAt(from, fromIn) || hasTo && !mayEndAt(to, toIn)) {
                return null;
            }
            if (hasFrom && hasTo && (falling ? from < to : from > to)) {
                return null;
            }
            Range begun = hasFrom ? withEnd(falling, from, fromIn) : this;
            return hasTo ? begun.withEnd(!falling, to, toIn) : begun;
        }

        /** An end that is not in itself may be an end of this range that is not in it either. */
        private boolean mayEndAt(long key, boolean in) {
            return in ? holds(key) : key >= low && key <= high;
        }

        private Range withEnd(boolean upper, long key, boolean in) {
            return upper ? new Range(low, lowIn, key, in) : new Range(key, in, high, highIn);
        }
    }
}
