/**
 * A net with a tour by all its paths, each gone both ways, and signs that lead along a part of it, so that a walk may be
 * as long as 30 paths. Some edges go over a place between, where there is no choice, as there are but 24 signs.
 */
final class LongWalk {
    /** The places 0 .. 5 joined fourfold; three of the edges go over the places 6 .. 8, one over 9 unless it is spared. */
    private static final int[][] JOINED = {
        {0, 1, -1}, {0, 2, -1}, {0, 3, -1}, {0, 4, -1}, {1, 2, -1}, {1, 3, -1},
        {1, 5, -1}, {2, 4, -1}, {2, 5, 6}, {3, 4, 7}, {3, 5, 8}, {4, 5, 9}};
    private static final int EDGES = 24;

    final TwigsAndStones net = new TwigsAndStones();
    /** By edge gone one way (2 * edge + direction): the paths by which it leaves and comes. */
    private final int[] leaves = new int[EDGES];
    private final int[] comes = new int[EDGES];
    private final int[] from = new int[EDGES];
    private final int[] to = new int[EDGES];
    private final int[] tour = new int[EDGES];
    private int toured = 0;
    private final boolean[] gone = new boolean[EDGES];
    private int shift = 0;
    private int edges = 0;

    /** Lays the net and finds the tour, which goes by every edge once each way, so that no path comes twice. */
    private LongWalk(boolean sparesNine) {
        for (int e = 0; e < JOINED.length; e++) {
            int a = JOINED[e][0];
            int b = JOINED[e][1];
            int between = sparesNine && JOINED[e][2] == 9 ? -1 : JOINED[e][2];
            int first = net.path(a, between < 0 ? b : between, 1);
            int end = between < 0 ? first : net.path(between, b, 1);
            set(2 * e, a, b, first, end);
            set(2 * e + 1, b, a, end, first);
        }
        goOn(0, -1);
        for (int i = 0; i < toured / 2; i++) {
            int swap = tour[i];
            tour[i] = tour[toured - 1 - i];
            tour[toured - 1 - i] = swap;
        }
    }

    private void set(int edge, int a, int b, int leaving, int coming) {
        from[edge] = a;
        to[edge] = b;
        leaves[edge] = leaving;
        comes[edge] = coming;
    }

    private void goOn(int place, int by) {
        for (int edge = 0; edge < EDGES; edge++) {
            if (from[edge] == place && !gone[edge]) {
                gone[edge] = true;
                goOn(to[edge], edge);
            }
        }
        if (by >= 0) {
            tour[toured++] = by;
        }
    }

    /** The n-th edge of the walk. */
    private int edgeAt(int n) {
        return tour[(shift + n) % EDGES];
    }

    /** How many edges of the walk make just so many paths; 0 if none do. */
    private int edgesFor(int paths) {
        int sum = 0;
        for (int n = 0; n < EDGES; n++) {
            if (sum == paths) {
                return n;
            }
            sum += leaves[edgeAt(n)] == comes[edgeAt(n)] ? 1 : 2;
        }
        return 0;
    }

    /** Signs lead along just so many paths; where they end there is no sign for one who comes so. */
    static LongWalk of(int paths, boolean sparesNine) {
        LongWalk w = new LongWalk(sparesNine);
        while (w.shift < EDGES && w.edgesFor(paths) == 0) {
            w.shift++;
        }
        w.edges = w.edgesFor(paths);
        w.net.sign(w.begin(), 0, w.leaves[w.edgeAt(0)], 60, 0, true);
        for (int n = 1; n < w.edges; n++) {
            int before = w.edgeAt(n - 1);
            w.net.sign(w.to[before], 0, w.leaves[w.edgeAt(n)], 60, 1 << w.comes[before], false);
        }
        return w;
    }

    /** The place where the walk begins. */
    int begin() {
        return from[edgeAt(0)];
    }

    /** The place to which the signs lead. */
    int end() {
        return to[edgeAt(edges - 1)];
    }

    /** Lays at the end a sign for who comes there: its number. */
    int laySignAtEnd(int kind, int v) {
        return net.sign(end(), kind, v, 60, 1 << comes[edgeAt(edges - 1)], false);
    }

    /** A path by which the walk left the end before, or -1. */
    int pathGoneFromEnd() {
        for (int n = 0; n < edges; n++) {
            if (from[edgeAt(n)] == end()) {
                return leaves[edgeAt(n)];
            }
        }
        return -1;
    }

    /** A path by which the walk did not leave the end before. */
    int pathNotGoneFromEnd() {
        return leaves[edgeAt(edges)];
    }
}
