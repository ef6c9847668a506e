/** Long runs of calls, like and wild, against {@link PlainModel}; the same seeds, so the same runs, each time. */
public final class RandomRunsTest {
    private static final int RUNS = 1500;
    private static final int CALLS = 512;
    private static final int CALL_KINDS = 28;
    private static final int[] EDGES = {Integer.MIN_VALUE, Integer.MIN_VALUE + 1, -100, -6, -5, -4, -3, -2, -1, 16, 17, 24,
        31, 32, 33, 60, 61, 64, 100, 400, 401, 65535, 65536, 1 << 20, Integer.MAX_VALUE - 1, Integer.MAX_VALUE};

    private long state;
    private final TwigsAndStones x = new TwigsAndStones();
    private final PlainModel plain = new PlainModel();
    private final int places;
    private final int wild;
    private final boolean buildsFirst;
    private boolean flag;

    private RandomRunsTest(int seed) {
        state = seed;
        places = 3 + pick(8);
        wild = seed % 5 == 0 ? 6 : 60;
        buildsFirst = seed % 3 != 0;
    }

    public static void main(String[] args) {
        for (int seed = 0; seed < RUNS; seed++) {
            RandomRunsTest run = new RandomRunsTest(seed);
            for (int n = 0; n < CALLS; n++) {
                run.step(seed, n);
            }
        }
        Due.end();
    }

    /** A number from 0 to below the bound, by a linear congruence, so that it is the same everywhere. */
    private int pick(int bound) {
        state = state * 6364136223846793005L + 1442695040888963407L;
        return (int) ((state >>> 33) % bound);
    }

    private int some(int least, int most) {
        if (pick(wild) == 0) {
            int which = pick(EDGES.length + 2);
            return which < EDGES.length ? EDGES[which] : which == EDGES.length ? least - 1 : most + 1;
        }
        return least + pick(most - least + 1);
    }

    private int place() {
        return some(0, places - 1);
    }

    private int pathNumber() {
        return some(0, Math.max(0, plain.count(0) - 1));
    }

    private int pathAt(int place) {
        for (int tries = 0; tries < 8; tries++) {
            int path = pathNumber();
            if (plain.seen(place, path) >= 0 && path >= 0) {
                return path;
            }
        }
        return pathNumber();
    }

    private int bitsAt(int place) {
        int bits = 0;
        for (int path = 0; path < plain.count(0); path++) {
            if (plain.seen(place, path) != -2 && pick(3) > 0) {
                bits |= 1 << path;
            }
        }
        return pick(wild) == 0 ? some(0, 65535) : bits;
    }

    private int kindOfCall(int n) {
        if (buildsFirst && n < 70) {
            return n < 25 ? 0 : n < 50 ? 3 : pick(CALL_KINDS);
        }
        // Days wear everything out, so they come seldom.
        int kind = pick(CALL_KINDS);
        return kind == 2 && pick(3) > 0 ? 8 : kind;
    }

    private int[] arguments(int kind) {
        int place = place();
        switch (kind) {
            case 0: return new int[] {place, place(), some(1, 9)};
            case 1: return new int[] {some(0, 2)};
            case 2: return new int[] {some(1, pick(4) == 0 ? 30 : 3)};
            case 3: return signArguments(place);
            case 4: return new int[] {some(0, 23), pathNumber()};
            case 5: return new int[] {some(0, 23), some(0, 5)};
            case 6: return new int[] {some(0, 2), some(0, pick(2) == 0 ? 9 : 40)};
            case 7: return new int[] {place, pick(4) == 0 ? -1 : pathAt(place)};
            case 8: return new int[] {place, some(0, 3)};
            case 9: return new int[] {place, some(0, 31)};
            case 10: return new int[] {pick(3) > 0 ? -1 : some(-1, 15)};
            case 12: return new int[] {place};
            case 13: return new int[] {place, some(0, 8)};
            case 14: return new int[] {place};
            case 16: return new int[] {some(0, 1)};
            case 17: return new int[] {place};
            case 18: return new int[] {some(0, 5), place};
            case 19: return new int[] {some(0, 5)};
            case 20: return new int[] {some(1, 20)};
            case 22: return new int[] {some(1, 3)};
            case 23: return new int[] {some(1, 3), some(0, 4), some(0, 1)};
            case 24: return new int[] {some(0, 3), some(0, (1 << plain.count(0)) - 1)};
            case 25: return new int[] {some(0, 3), some(0, 5), some(0, 400)};
            case 26: return new int[] {pathNumber(), some(0, 5), some(0, 400), some(0, 1)};
            case 27: return new int[] {some(0, 7)};
            default: return new int[0];
        }
    }

    private int[] signArguments(int place) {
        int kind = some(0, 3);
        int v = kind == 0 || kind == 1 ? pathAt(place) : kind == 2 ? some(0, 9) : some(0, 5);
        return new int[] {place, kind, v, some(1, 60), bitsAt(place)};
    }

    private void step(int seed, int n) {
        int kind = kindOfCall(n);
        // Long rows are rare if they are given up as often as they are lengthened.
        boolean givesUp = kind == 11 || kind == 15 || kind == 21;
        if (givesUp && pick(6) > 0) {
            kind = kind == 11 ? 12 : kind == 15 ? 16 : 22;
        }
        flag = pick(4) > 0;
        int[] a = arguments(kind);
        StringBuilder call = new StringBuilder("seed ").append(seed).append(", call ").append(n).append(", kind ").append(kind);
        for (int v : a) {
            call.append(' ').append(v);
        }
        Due.is(call.append(' ').append(flag).toString(), ask(kind, a), askPlain(kind, a));
    }

    private int ask(int kind, int[] a) {
        switch (kind) {
            case 0: return x.path(a[0], a[1], a[2]);
            case 1: return x.weather(a[0]);
            case 2: return x.days(a[0]);
            case 3: return x.sign(a[0], a[1], a[2], a[3], a[4], flag);
            case 4: return x.turn(a[0], a[1]);
            case 5: return x.at(a[0], a[1]);
            case 6: return x.set(a[0], a[1]);
            case 7: return x.seen(a[0], a[1]);
            case 8: return x.walk(a[0], a[1]);
            case 9: return x.walked(a[0], a[1]);
            case 10: return x.note(a[0]);
            case 11: return x.forget();
            case 12: return x.ways(a[0]);
            case 13: return x.only(a[0], a[1]);
            case 14: return x.route(a[0]);
            case 15: return x.unroute();
            case 16: return x.needed(a[0]);
            case 17: return x.trail(a[0], flag);
            case 18: return x.add(a[0], a[1]);
            case 19: return x.breaks(a[0]);
            case 20: return x.branch(a[0]);
            case 21: return x.unbranch();
            case 22: return x.worst(a[0]);
            case 23: return x.split(a[0], a[1], a[2]);
            case 24: return x.club(a[0], a[1]);
            case 25: return x.colour(a[0], a[1], a[2]);
            case 26: return x.whose(a[0], a[1], a[2], a[3]);
            default: return x.count(a[0]);
        }
    }

    private int askPlain(int kind, int[] a) {
        switch (kind) {
            case 0: return plain.path(a[0], a[1], a[2]);
            case 1: return plain.weather(a[0]);
            case 2: return plain.days(a[0]);
            case 3: return plain.sign(a[0], a[1], a[2], a[3], a[4], flag);
            case 4: return plain.turn(a[0], a[1]);
            case 5: return plain.at(a[0], a[1]);
            case 6: return plain.set(a[0], a[1]);
            case 7: return plain.seen(a[0], a[1]);
            case 8: return plain.walk(a[0], a[1]);
            case 9: return plain.walked(a[0], a[1]);
            case 10: return plain.note(a[0]);
            case 11: return plain.forget();
            case 12: return plain.ways(a[0]);
            case 13: return plain.only(a[0], a[1]);
            case 14: return plain.route(a[0]);
            case 15: return plain.unroute();
            case 16: return plain.needed(a[0]);
            case 17: return plain.trail(a[0], flag);
            case 18: return plain.add(a[0], a[1]);
            case 19: return plain.breaks(a[0]);
            case 20: return plain.branch(a[0]);
            case 21: return plain.unbranch();
            case 22: return plain.worst(a[0]);
            case 23: return plain.split(a[0], a[1], a[2]);
            case 24: return plain.club(a[0], a[1]);
            case 25: return plain.colour(a[0], a[1], a[2]);
            case 26: return plain.whose(a[0], a[1], a[2], a[3]);
            default: return plain.count(a[0]);
        }
    }
}
