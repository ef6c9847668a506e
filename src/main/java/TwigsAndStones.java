/**
 * Broken twigs and stones in a row: a net of paths with signs, a walker who goes by them, notes of a way gone, a route
 * with its marks, false trails, hounds at a fork and the colours of clubs.
 *
 * <p>The public methods refuse what the document refuses, in its order; the classes inside hold the state and count.
 * Every number that is kept stands in a {@link Row}, the one place where an index is used, and tested.
 */
public final class TwigsAndStones {
    public static final int NONE = -1, UNKNOWN = -2, OUTSIDE = -3, NOT = -4, FULL = -5;

    private static final int PLACES = 10;
    private static final int MOST_PATHS = 16;
    private static final int LONGEST_PATH = 9;
    private static final int LAST_DAY = 400;

    private static final int THIS_WAY = 0;
    private static final int NOT_THIS_WAY = 1;
    private static final int STONES = 2;
    private static final int PAINT = 3;

    private final Net net;
    private final Signs signs;
    private final Walker walker;
    private final Notes notes;
    private final Route theRoute;
    private final Trails trails;
    private final Fork fork;
    private final Clubs clubs;

    public TwigsAndStones() {
        net = new Net();
        signs = new Signs(net);
        walker = new Walker(net, signs);
        notes = new Notes(net, signs);
        theRoute = new Route(net, walker);
        trails = new Trails(net, theRoute);
        fork = new Fork();
        clubs = new Clubs();
    }

    // ---- paths, signs

    public int path(int a, int b, int length) {
        if (!isPlace(a) || !isPlace(b)) {
            return UNKNOWN;
        }
        if (a == b || !isWithin(length, 1, LONGEST_PATH)) {
            return OUTSIDE;
        }
        if (net.joining(a, b) != NONE) {
            return NOT;
        }
        return net.pathCount() >= MOST_PATHS ? FULL : net.join(a, b, length);
    }

    public int weather(int v) {
        return isWithin(v, 0, 2) ? signs.changeWeather(v) : OUTSIDE;
    }

    public int days(int n) {
        if (!isWithin(n, 1, 30) || signs.today() + n > LAST_DAY) {
            return OUTSIDE;
        }
        return signs.letDaysGoBy(n);
    }

    public int sign(int place, int kind, int v, int life, int seen, boolean start) {
        if (!isPlace(place) || (isOfPath(kind) && !net.touches(v, place))) {
            return UNKNOWN;
        }
        if (!isSignValue(kind, v) || !isWithin(life, 1, 60) || (seen & ~net.pathsAt(place)) != 0) {
            return OUTSIDE;
        }
        return signs.signCount() >= Signs.MOST ? FULL : signs.lay(place, kind, v, life, seen, start);
    }

    public int turn(int sign, int path) {
        if (!isWithin(sign, 0, signs.signCount() - 1) || !net.touches(path, signs.placeOf(sign))) {
            return UNKNOWN;
        }
        if (signs.kindOf(sign) != THIS_WAY || signs.isGone(sign) || signs.valueOf(sign) == path) {
            return NOT;
        }
        return signs.pointTo(sign, path);
    }

    public int at(int sign, int what) {
        if (!isWithin(sign, 0, signs.signCount() - 1)) {
            return UNKNOWN;
        }
        return isWithin(what, 0, 5) ? signs.tell(sign, what) : OUTSIDE;
    }

    public int set(int what, int v) {
        if (what == 0 && isWithin(v, 0, 9)) {
            return signs.changeFog(v);
        }
        if (what == 1 && isWithin(v, 0, 9)) {
            return theRoute.changeLeeway(v);
        }
        if (what == 2 && isWithin(v, 1, 40)) {
            return trails.changeReach(v);
        }
        return OUTSIDE;
    }

    public int seen(int place, int path) {
        if (!isPlace(place) || (path != NONE && !net.touches(path, place))) {
            return UNKNOWN;
        }
        return signs.allSeen(place, path);
    }

    // ---- walks, notes

    public int walk(int place, int what) {
        if (!isPlace(place)) {
            return UNKNOWN;
        }
        if (!isWithin(what, 0, 3)) {
            return OUTSIDE;
        }
        walker.goFrom(place);
        return walker.tell(what);
    }

    public int walked(int place, int i) {
        if (!isPlace(place)) {
            return UNKNOWN;
        }
        if (i < 0) {
            return OUTSIDE;
        }
        walker.goFrom(place);
        return walker.placeBehind(i);
    }

    public int note(int kinds) {
        if (!isWithin(kinds, Notes.NOT_KNOWN, 15)) {
            return OUTSIDE;
        }
        return notes.noteCount() >= Notes.MOST ? FULL : notes.takeDown(kinds);
    }

    public int forget() {
        return notes.dropAll();
    }

    public int ways(int place) {
        return isPlace(place) ? notes.waysFrom(place) : UNKNOWN;
    }

    public int only(int place, int i) {
        if (!isPlace(place)) {
            return UNKNOWN;
        }
        if (i < 0) {
            return OUTSIDE;
        }
        return notes.waysFrom(place) == 1 ? notes.placeOnTheWay(place, i) : NONE;
    }

    // ---- routes, trails

    public int route(int place) {
        if (!isPlace(place)) {
            return UNKNOWN;
        }
        if (!theRoute.mayGoOnTo(place)) {
            return NOT;
        }
        return theRoute.placeCount() >= Route.MOST ? FULL : theRoute.goOnTo(place);
    }

    public int unroute() {
        return theRoute.dropAll();
    }

    public int needed(int way) {
        return isWithin(way, 0, 1) ? theRoute.marksNeeded(way) : OUTSIDE;
    }

    public int trail(int place, boolean isFalse) {
        if (!isPlace(place)) {
            return UNKNOWN;
        }
        return trails.trailCount() >= Trails.MOST ? FULL : trails.begin(place, isFalse);
    }

    public int add(int trail, int place) {
        if (!isWithin(trail, 0, trails.trailCount() - 1) || !isPlace(place)) {
            return UNKNOWN;
        }
        if (!trails.mayGoOnTo(trail, place)) {
            return NOT;
        }
        return trails.sizeOf(trail) >= Trails.MOST_PLACES ? FULL : trails.goOnTo(trail, place);
    }

    public int breaks(int trail) {
        return isWithin(trail, 0, trails.trailCount() - 1) ? trails.faultsOf(trail) : UNKNOWN;
    }

    // ---- hounds

    public int branch(int length) {
        if (!isWithin(length, 1, 20)) {
            return OUTSIDE;
        }
        return fork.branchCount() >= Fork.MOST ? FULL : fork.grow(length);
    }

    public int unbranch() {
        return fork.dropAll();
    }

    public int worst(int hounds) {
        return isWithin(hounds, 1, Fork.MOST_HOUNDS) ? fork.findBestSplit(hounds) : OUTSIDE;
    }

    public int split(int hounds, int branch, int what) {
        if (!isWithin(branch, 0, fork.branchCount() - 1)) {
            return UNKNOWN;
        }
        if (!isWithin(hounds, 1, Fork.MOST_HOUNDS) || !isWithin(what, 0, 1)) {
            return OUTSIDE;
        }
        fork.findBestSplit(hounds);
        return what == 0 ? fork.houndOf(branch) : fork.timeOf(branch);
    }

    // ---- clubs

    public int club(int club, int paths) {
        if (!isClub(club)) {
            return UNKNOWN;
        }
        return (paths & ~net.allPaths()) == 0 ? clubs.changePaths(club, paths) : OUTSIDE;
    }

    public int colour(int club, int colour, int day) {
        if (!isClub(club)) {
            return UNKNOWN;
        }
        if (!isColour(colour) || !isWithin(day, 0, LAST_DAY)) {
            return OUTSIDE;
        }
        return clubs.toldColours() >= Clubs.MOST_TOLD ? FULL : clubs.tellColour(club, colour, day);
    }

    public int whose(int path, int colour, int day, int way) {
        if (!isWithin(path, 0, net.pathCount() - 1)) {
            return UNKNOWN;
        }
        if (!isColour(colour) || !isWithin(day, 0, LAST_DAY) || !isWithin(way, 0, 1)) {
            return OUTSIDE;
        }
        return clubs.ownersOf(path, colour, day, way == 1);
    }

    public int count(int what) {
        switch (what) {
            case 0: return net.pathCount();
            case 1: return signs.signCount();
            case 2: return signs.countLeft();
            case 3: return signs.today();
            case 4: return notes.noteCount();
            case 5: return theRoute.placeCount();
            case 6: return trails.trailCount();
            case 7: return fork.branchCount();
            default: return OUTSIDE;
        }
    }

    // ---- what arguments may be

    private static boolean isWithin(int v, int least, int most) {
        return v >= least && v <= most;
    }

    private static boolean isPlace(int place) {
        return isWithin(place, 0, PLACES - 1);
    }

    private static boolean isClub(int club) {
        return isWithin(club, 0, Clubs.CLUBS - 1);
    }

    private static boolean isColour(int colour) {
        return isWithin(colour, 0, 5);
    }

    /** Whether a sign of this kind is of a path. */
    private static boolean isOfPath(int kind) {
        return kind == THIS_WAY || kind == NOT_THIS_WAY;
    }

    /** Whether there is such a kind and its sign may tell this; a sign's path is looked at elsewhere. */
    private static boolean isSignValue(int kind, int v) {
        if (kind == STONES) {
            return isWithin(v, 0, 9);
        }
        return kind == PAINT ? isColour(v) : isOfPath(kind);
    }

    /** The bit of a path, or no bit for NONE. */
    private static int bitOf(int path) {
        return isWithin(path, 0, MOST_PATHS - 1) ? 1 << path : 0;
    }

    // ---- what is kept

    /** A row of numbers with a fixed room; reading beside it gives NONE, writing beside it does nothing. */
    private static final class Row {
        private final int[] cells;
        private int size;

        /** An empty row with room for some numbers. */
        Row(int room) {
            cells = new int[room < 0 ? 0 : room];
        }

        /** The row, with zeros in all its room. */
        Row filled() {
            size = cells.length;
            return this;
        }

        int size() {
            return size;
        }

        int get(int i) {
            return i >= 0 && i < size && i < cells.length ? cells[i] : NONE;
        }

        void put(int i, int v) {
            if (i >= 0 && i < size && i < cells.length) {
                cells[i] = v;
            }
        }

        /** Adds a number behind the others: how many there are. */
        int push(int v) {
            if (size >= 0 && size < cells.length) {
                cells[size] = v;
                size++;
            }
            return size;
        }

        boolean has(int v) {
            for (int i = 0; i < size; i++) {
                if (get(i) == v) {
                    return true;
                }
            }
            return false;
        }

        /** Empties the row: how many numbers it had. */
        int clear() {
            int had = size;
            size = 0;
            return had;
        }
    }

    /** The paths. An arc is a path gone one way: there are two of each path, the even one ends at its first place. */
    private static final class Net {
        static final int ARCS = 2 * MOST_PATHS;

        private final Row firsts = new Row(MOST_PATHS);
        private final Row seconds = new Row(MOST_PATHS);
        private final Row lengths = new Row(MOST_PATHS);
        private final Row pathsByPlace = new Row(PLACES).filled();

        int pathCount() {
            return lengths.size();
        }

        int join(int a, int b, int length) {
            int path = pathCount();
            firsts.push(a);
            seconds.push(b);
            lengths.push(length);
            pathsByPlace.put(a, pathsAt(a) | bitOf(path));
            pathsByPlace.put(b, pathsAt(b) | bitOf(path));
            return path;
        }

        /** The paths at a place, by bits. */
        int pathsAt(int place) {
            return isPlace(place) ? pathsByPlace.get(place) : 0;
        }

        /** The bits of all paths that there are. */
        int allPaths() {
            return (1 << pathCount()) - 1;
        }

        boolean touches(int path, int place) {
            return (pathsAt(place) & bitOf(path)) != 0;
        }

        /** The path that joins two places, or NONE. */
        int joining(int a, int b) {
            int both = a == b ? 0 : pathsAt(a) & pathsAt(b);
            // It is one bit at most, so the bits below it count its number.
            return both == 0 ? NONE : Integer.bitCount(both - 1);
        }

        int lengthOf(int path) {
            return lengths.get(path);
        }

        int arcFrom(int place, int path) {
            return 2 * path + (firsts.get(path) == place ? 1 : 0);
        }

        int endOf(int arc) {
            return (arc & 1) == 0 ? firsts.get(arc >> 1) : seconds.get(arc >> 1);
        }

        int otherEnd(int place, int path) {
            return endOf(arcFrom(place, path));
        }
    }

    /** The signs, and what wears or hides them: the day, its weather, the fog. */
    private static final class Signs {
        static final int MOST = 24;
        /** The bit, beyond those of paths, of one who begins at a place. */
        private static final int START = 1 << MOST_PATHS;

        private final Net net;
        private final Row places = new Row(MOST);
        private final Row kinds = new Row(MOST);
        private final Row values = new Row(MOST);
        private final Row lives = new Row(MOST);
        private final Row laidOn = new Row(MOST);
        private final Row turned = new Row(MOST);
        private final Row seenBy = new Row(MOST);
        private int day = 0;
        private int weatherNow = 0;
        private int fog = 0;

        Signs(Net net) {
            this.net = net;
        }

        int signCount() {
            return places.size();
        }

        int today() {
            return day;
        }

        int changeWeather(int v) {
            int was = weatherNow;
            weatherNow = v;
            return was;
        }

        int changeFog(int v) {
            int was = fog;
            fog = v;
            return was;
        }

        int letDaysGoBy(int n) {
            for (int s = 0; s < signCount(); s++) {
                int lost = kindOf(s) == STONES ? n : n * (1 << weatherNow);
                lives.put(s, Math.max(0, lives.get(s) - lost));
            }
            day += n;
            return day;
        }

        int lay(int place, int kind, int v, int life, int seenByPaths, boolean start) {
            int sign = signCount();
            places.push(place);
            kinds.push(kind);
            values.push(v);
            lives.push(life);
            laidOn.push(day);
            turned.push(0);
            seenBy.push(start ? seenByPaths | START : seenByPaths);
            return sign;
        }

        int pointTo(int sign, int path) {
            int was = valueOf(sign);
            values.put(sign, path);
            turned.put(sign, 1);
            return was;
        }

        int placeOf(int sign) {
            return places.get(sign);
        }

        int kindOf(int sign) {
            return kinds.get(sign);
        }

        int valueOf(int sign) {
            return values.get(sign);
        }

        boolean isGone(int sign) {
            return lives.get(sign) <= 0;
        }

        int tell(int sign, int what) {
            switch (what) {
                case 0: return placeOf(sign);
                case 1: return kindOf(sign);
                case 2: return valueOf(sign);
                case 3: return lives.get(sign);
                case 4: return laidOn.get(sign);
                default: return turned.get(sign);
            }
        }

        int countLeft() {
            int left = 0;
            for (int s = 0; s < signCount(); s++) {
                left += isGone(s) ? 0 : 1;
            }
            return left;
        }

        /** Whether one who comes to a place by a path (NONE: begins there) sees a sign. */
        boolean isSeen(int sign, int place, int came) {
            if (placeOf(sign) != place || isGone(sign)) {
                return false;
            }
            int eye = came == NONE ? START : bitOf(came);
            if ((seenBy.get(sign) & eye) == 0) {
                return false;
            }
            return came == NONE || !isOfPath(kindOf(sign)) || net.lengthOf(came) >= fog;
        }

        /** The signs that are seen, by bits. */
        int allSeen(int place, int came) {
            int bits = 0;
            for (int s = 0; s < signCount(); s++) {
                bits |= isSeen(s, place, came) ? 1 << s : 0;
            }
            return bits;
        }

        /** The kinds of the signs that are seen, by bits. */
        int kindsSeen(int place, int came) {
            int bits = 0;
            for (int s = 0; s < signCount(); s++) {
                bits |= isSeen(s, place, came) ? 1 << kindOf(s) : 0;
            }
            return bits;
        }
    }

    /** One who goes by the signs, and the last walk. */
    private static final class Walker {
        private static final int MOST_STEPS = 30;
        private static final int AROUND = 3;
        private static final int FAR = 4;
        /** What is chosen instead of a path; (-1 - it) is how the walk ends. */
        private static final int AT_LOSS = -1;
        private static final int AT_END = -2;
        private static final int AT_CAMP = -3;

        private final Net net;
        private final Signs signs;
        private final Row places = new Row(MOST_STEPS + 1);
        private int ending = 0;
        private int length = 0;

        Walker(Net net, Signs signs) {
            this.net = net;
            this.signs = signs;
        }

        /** The path by which the walker goes on, having come by a path (NONE: begun); or why it does not. */
        int choice(int place, int came) {
            int pointed = NONE;
            int barred = 0;
            for (int s = 0; s < signs.signCount(); s++) {
                if (!signs.isSeen(s, place, came)) {
                    continue;
                }
                int kind = signs.kindOf(s);
                int v = signs.valueOf(s);
                if (kind == STONES && v == 0) {
                    return AT_CAMP;
                }
                // Signs are numbered as they are laid: the last one found is the latest.
                pointed = kind == THIS_WAY ? v : pointed;
                barred |= kind == NOT_THIS_WAY ? bitOf(v) : 0;
            }
            return pointed != NONE ? pointed : choiceAmong(net.pathsAt(place) & ~bitOf(came), barred);
        }

        private int choiceAmong(int ahead, int barred) {
            int open = ahead & ~barred;
            if (Integer.bitCount(open) == 1) {
                // The bits below the only one count its number.
                return Integer.bitCount(open - 1);
            }
            return ahead == 0 ? AT_END : AT_LOSS;
        }

        void goFrom(int place) {
            places.clear();
            places.push(place);
            length = 0;
            int here = place;
            int came = NONE;
            int arcsGone = 0;
            for (int steps = 0; steps <= MOST_STEPS; steps++) {
                int chosen = choice(here, came);
                if (chosen < 0) {
                    ending = -1 - chosen;
                    return;
                }
                if (steps == MOST_STEPS) {
                    break;
                }
                int arc = net.arcFrom(here, chosen);
                here = net.endOf(arc);
                came = chosen;
                places.push(here);
                length += net.lengthOf(chosen);
                if ((arcsGone & (1 << arc)) != 0) {
                    ending = AROUND;
                    return;
                }
                arcsGone |= 1 << arc;
            }
            ending = FAR;
        }

        int tell(int what) {
            switch (what) {
                case 0: return ending;
                case 1: return places.get(places.size() - 1);
                case 2: return places.size() - 1;
                default: return length;
            }
        }

        int placeBehind(int steps) {
            return places.get(steps);
        }
    }

    /** The notes of what was seen on a way, and the ways that fit them. */
    private static final class Notes {
        static final int MOST = 8;
        static final int NOT_KNOWN = -1;

        private final Net net;
        private final Signs signs;
        private final Row noted = new Row(MOST);
        /** For each note but the first and each arc by which one came there: how many ways go on. */
        private final Row waysByArc = new Row(MOST * Net.ARCS).filled();

        Notes(Net net, Signs signs) {
            this.net = net;
            this.signs = signs;
        }

        int noteCount() {
            return noted.size();
        }

        int takeDown(int kinds) {
            return noted.push(kinds);
        }

        int dropAll() {
            return noted.clear();
        }

        int waysFrom(int place) {
            if (noteCount() == 0) {
                return 1;
            }
            for (int step = noteCount() - 1; step >= 1; step--) {
                for (int arc = 0; arc < 2 * net.pathCount(); arc++) {
                    waysByArc.put(step * Net.ARCS + arc, waysOn(step, net.endOf(arc), arc >> 1));
                }
            }
            return waysOn(0, place, NONE);
        }

        /** How many ways go on from a place at a note; the counts for the next note must stand. */
        private int waysOn(int step, int place, int came) {
            int kinds = noted.get(step);
            if (kinds != NOT_KNOWN && kinds != signs.kindsSeen(place, came)) {
                return 0;
            }
            if (step == noteCount() - 1) {
                return 1;
            }
            int exits = exitsFrom(place, came);
            int sum = 0;
            for (int path = 0; path < net.pathCount(); path++) {
                if ((exits & bitOf(path)) != 0) {
                    sum += waysBehind(step + 1, place, path);
                }
            }
            return sum;
        }

        private int exitsFrom(int place, int came) {
            int others = net.pathsAt(place) & ~bitOf(came);
            return others == 0 ? net.pathsAt(place) : others;
        }

        private int waysBehind(int step, int place, int path) {
            return waysByArc.get(step * Net.ARCS + net.arcFrom(place, path));
        }

        /** The i-th place of the only way, or NONE; the ways from there must just have been counted, and be one. */
        int placeOnTheWay(int place, int i) {
            if (i < 0 || i >= noteCount()) {
                return NONE;
            }
            int here = place;
            int came = NONE;
            for (int step = 1; step <= i; step++) {
                came = pathOn(step, here, came);
                if (came == NONE) {
                    return NONE;
                }
                here = net.otherEnd(here, came);
            }
            return here;
        }

        private int pathOn(int step, int place, int came) {
            int exits = exitsFrom(place, came);
            for (int path = 0; path < net.pathCount(); path++) {
                if ((exits & bitOf(path)) != 0 && waysBehind(step, place, path) > 0) {
                    return path;
                }
            }
            return NONE;
        }
    }

    /** The route, and where it wants marks. */
    private static final class Route {
        static final int MOST = PLACES;

        private final Net net;
        private final Walker walker;
        private final Row places = new Row(MOST);
        private int leeway = 0;

        Route(Net net, Walker walker) {
            this.net = net;
            this.walker = walker;
        }

        int placeCount() {
            return places.size();
        }

        boolean passes(int place) {
            return places.has(place);
        }

        int changeLeeway(int v) {
            int was = leeway;
            leeway = v;
            return was;
        }

        boolean mayGoOnTo(int place) {
            return placeCount() == 0 || (!passes(place) && net.joining(places.get(placeCount() - 1), place) != NONE);
        }

        int goOnTo(int place) {
            return places.push(place);
        }

        int dropAll() {
            return places.clear();
        }

        /** Places where a mark is needed, by bits: forward (way 0) or backward (1). */
        int marksNeeded(int way) {
            int ahead = way == 0 ? 1 : -1;
            int bits = 0;
            for (int i = 0; i < placeCount(); i++) {
                int here = places.get(i);
                // Beside the route's ends stands NONE, which no path joins.
                int right = net.joining(here, places.get(i + ahead));
                int came = net.joining(here, places.get(i - ahead));
                if (right != NONE && mayGoBadlyWrong(here, came, right) && walker.choice(here, came) != right) {
                    bits |= 1 << here;
                }
            }
            return bits;
        }

        private boolean mayGoBadlyWrong(int here, int came, int right) {
            int wrong = net.pathsAt(here) & ~bitOf(came) & ~bitOf(right);
            for (int path = 0; path < net.pathCount(); path++) {
                if ((wrong & bitOf(path)) != 0 && !isHarmless(here, path)) {
                    return true;
                }
            }
            return false;
        }

        private boolean isHarmless(int here, int path) {
            boolean isDeadEnd = net.pathsAt(net.otherEnd(here, path)) == bitOf(path);
            return isDeadEnd && net.lengthOf(path) <= leeway;
        }
    }

    /** The trails of the game, and how they break its rule. */
    private static final class Trails {
        static final int MOST = 6;
        static final int MOST_PLACES = 6;

        private final Net net;
        private final Route ofGame;
        /** MOST_PLACES cells for each trail. */
        private final Row places = new Row(MOST * MOST_PLACES).filled();
        private final Row sizes = new Row(MOST);
        private final Row falseOnes = new Row(MOST);
        private int reach = 12;

        Trails(Net net, Route ofGame) {
            this.net = net;
            this.ofGame = ofGame;
        }

        int trailCount() {
            return sizes.size();
        }

        int sizeOf(int trail) {
            return sizes.get(trail);
        }

        int changeReach(int v) {
            int was = reach;
            reach = v;
            return was;
        }

        int begin(int place, boolean isFalse) {
            int trail = trailCount();
            sizes.push(0);
            falseOnes.push(isFalse ? 1 : 0);
            goOnTo(trail, place);
            return trail;
        }

        private int placeAt(int trail, int i) {
            return i >= 0 && i < sizeOf(trail) ? places.get(trail * MOST_PLACES + i) : NONE;
        }

        /** How many places before a place the trail has; NONE: the place is not in it. */
        private int indexOf(int trail, int place) {
            for (int i = 0; i < sizeOf(trail); i++) {
                if (placeAt(trail, i) == place) {
                    return i;
                }
            }
            return NONE;
        }

        boolean mayGoOnTo(int trail, int place) {
            int last = placeAt(trail, sizeOf(trail) - 1);
            return indexOf(trail, place) == NONE && net.joining(last, place) != NONE;
        }

        int goOnTo(int trail, int place) {
            int had = sizeOf(trail);
            places.put(trail * MOST_PLACES + had, place);
            sizes.put(trail, had + 1);
            return had + 1;
        }

        /** How a trail breaks the rule, by bits. */
        int faultsOf(int trail) {
            if (!isFalse(trail)) {
                return 0;
            }
            int faults = ofGame.passes(placeAt(trail, 0)) ? 0 : 1;
            faults |= comesBackToRoute(trail) ? 2 : 0;
            faults |= wholeLength(trail) > reach ? 4 : 0;
            for (int other = 0; other < trailCount(); other++) {
                faults |= other != trail && isFalse(other) && crosses(trail, other) ? 8 : 0;
            }
            return faults;
        }

        private boolean isFalse(int trail) {
            return falseOnes.get(trail) == 1;
        }

        private boolean comesBackToRoute(int trail) {
            for (int i = 1; i < sizeOf(trail); i++) {
                if (ofGame.passes(placeAt(trail, i))) {
                    return true;
                }
            }
            return false;
        }

        private int wholeLength(int trail) {
            int sum = 0;
            for (int i = 1; i < sizeOf(trail); i++) {
                sum += net.lengthOf(net.joining(placeAt(trail, i - 1), placeAt(trail, i)));
            }
            return sum;
        }

        /** Whether two trails have a place in common, but one where both begin. */
        private boolean crosses(int trail, int other) {
            for (int i = 0; i < sizeOf(trail); i++) {
                int found = indexOf(other, placeAt(trail, i));
                if (found > 0 || (found == 0 && i > 0)) {
                    return true;
                }
            }
            return false;
        }
    }

    /** The fork, and how hounds part at it. */
    private static final class Fork {
        static final int MOST = 5;
        static final int MOST_HOUNDS = 3;
        /** MOST_HOUNDS to the power of MOST. */
        private static final int MOST_SPLITS = 243;

        private final Row lengths = new Row(MOST);
        /** The hound of each branch. */
        private final Row tried = new Row(MOST).filled();
        private final Row best = new Row(MOST).filled();

        int branchCount() {
            return lengths.size();
        }

        int grow(int length) {
            return lengths.push(length);
        }

        int dropAll() {
            return lengths.clear();
        }

        int houndOf(int branch) {
            return best.get(branch);
        }

        /** Looks for the best split and keeps it: its worst time. */
        int findBestSplit(int hounds) {
            for (int b = 0; b < branchCount(); b++) {
                tried.put(b, 0);
            }
            int least = worstTime(hounds);
            keepTried();
            for (int n = 1; n < MOST_SPLITS && takeNextSplit(hounds); n++) {
                int time = worstTime(hounds);
                if (time < least) {
                    least = time;
                    keepTried();
                }
            }
            return least;
        }

        private void keepTried() {
            for (int b = 0; b < branchCount(); b++) {
                best.put(b, tried.get(b));
            }
        }

        /** The next split by the hound of branch 0, then 1, and so on; false behind the last one. */
        private boolean takeNextSplit(int hounds) {
            for (int b = branchCount() - 1; b >= 0; b--) {
                int next = tried.get(b) + 1;
                if (next < hounds) {
                    tried.put(b, next);
                    return true;
                }
                tried.put(b, 0);
            }
            return false;
        }

        private int worstTime(int hounds) {
            int worstOfAll = 0;
            for (int hound = 0; hound < hounds; hound++) {
                int sum = 0;
                int longest = 0;
                for (int b = 0; b < branchCount(); b++) {
                    int length = tried.get(b) == hound ? lengths.get(b) : 0;
                    sum += length;
                    longest = Math.max(longest, length);
                }
                // The longest one comes last, and is gone there, not back.
                worstOfAll = Math.max(worstOfAll, 2 * sum - longest);
            }
            return worstOfAll;
        }

        /** When the true marks are found in the best split, if they are along a branch. */
        int timeOf(int branch) {
            int time = lengths.get(branch);
            for (int b = 0; b < branchCount(); b++) {
                if (houndOf(b) == houndOf(branch) && comesBefore(b, branch)) {
                    time += 2 * lengths.get(b);
                }
            }
            return time;
        }

        private boolean comesBefore(int b, int branch) {
            int difference = lengths.get(b) - lengths.get(branch);
            return difference < 0 || (difference == 0 && b < branch);
        }
    }

    /** The clubs, their paths and what was told of their colours. */
    private static final class Clubs {
        static final int CLUBS = 4;
        static final int MOST_TOLD = 8;

        private final Row pathsByClub = new Row(CLUBS).filled();
        private final Row toldClubs = new Row(MOST_TOLD);
        private final Row toldHues = new Row(MOST_TOLD);
        private final Row toldDays = new Row(MOST_TOLD);

        int changePaths(int club, int paths) {
            int was = pathsByClub.get(club);
            pathsByClub.put(club, paths);
            return was;
        }

        int toldColours() {
            return toldClubs.size();
        }

        int tellColour(int club, int hue, int day) {
            toldHues.push(hue);
            toldDays.push(day);
            return toldClubs.push(club);
        }

        /** Clubs that have a path and, on a day, a colour; or (old) had it and have it no more; by bits. */
        int ownersOf(int path, int hue, int day, boolean old) {
            int bits = 0;
            for (int club = 0; club < CLUBS; club++) {
                boolean has = lastHue(club, day) == hue;
                boolean mayBe = old ? !has && everHad(club, hue, day) : has;
                if (mayBe && (pathsByClub.get(club) & bitOf(path)) != 0) {
                    bits |= 1 << club;
                }
            }
            return bits;
        }

        /** The colour of a club on a day, or NONE: that from the latest day; of several, that which was told last. */
        private int lastHue(int club, int day) {
            int hue = NONE;
            int latest = 0;
            for (int t = 0; t < toldColours(); t++) {
                int from = toldDays.get(t);
                if (toldClubs.get(t) == club && from <= day && from >= latest) {
                    hue = toldHues.get(t);
                    latest = from;
                }
            }
            return hue;
        }

        private boolean everHad(int club, int hue, int day) {
            for (int t = 0; t < toldColours(); t++) {
                if (toldClubs.get(t) == club && toldHues.get(t) == hue && toldDays.get(t) <= day) {
                    return true;
                }
            }
            return false;
        }
    }
}
