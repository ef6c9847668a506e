/** Promises 5 to 9 (sign, turn, at, set, seen): one test for each sentence that names a boundary case. */
public final class EdgesOfSignsTest {
    private static final int UNKNOWN = -2, OUTSIDE = -3, NOT = -4, FULL = -5;
    private static final int THIS_WAY = 0, NOT_THIS_WAY = 1, STONES = 2, PAINT = 3;

    public static void main(String[] args) {
        Due.runAll(EdgesOfSignsTest.class);
    }

    // ---- promise 5

    /** "SIGNS are numbered from 0, 24 at most"; "FULL". */
    static void signsAreTwentyFourAtMost() {
        TwigsAndStones x = Lands.star();
        for (int i = 0; i < 24; i++) {
            Due.is("sign " + i, x.sign(i % 10, STONES, i % 10, 60, 0, true), i);
        }
        Due.is("the twenty-fifth", x.sign(0, STONES, 0, 1, 0, true), FULL);
        Due.is("one of another kind", x.sign(0, THIS_WAY, 0, 60, 7, false), FULL);
        Due.is("count(1)", x.count(1), 24);
        Due.is("the last one", x.at(23, 2), 3);
        Due.is("none behind it", x.at(24, 2), UNKNOWN);
    }

    /** Those that are gone are signs still: none comes in their stead. */
    static void goneSignsKeepTheirNumbers() {
        TwigsAndStones x = Lands.star();
        for (int i = 0; i < 24; i++) {
            x.sign(0, STONES, 1, 1, 0, true);
        }
        x.days(1);
        Due.is("those not gone", x.count(2), 0);
        Due.is("the twenty-fifth", x.sign(0, STONES, 1, 1, 0, true), FULL);
        Due.is("a gone one's place", x.at(23, 0), 0);
        TwigsAndStones y = Lands.star();
        y.sign(0, STONES, 1, 1, 0, true);
        y.days(1);
        Due.is("the next number", y.sign(0, STONES, 1, 1, 0, true), 1);
    }

    /** "each at a PLACE"; "UNKNOWN: PLACE". */
    static void signTakesPlacesZeroToNine() {
        Due.takesOnly("sign at a place", 0, 9, UNKNOWN, place -> Lands.star().sign(place, STONES, 1, 1, 0, true));
    }

    /** "of a KIND: 0 .. 3"; "OUTSIDE: kind". */
    static void signTakesKindsZeroToThree() {
        Due.takesOnly("sign of a kind", 0, 3, OUTSIDE, kind -> Lands.star().sign(0, kind, 0, 1, 0, true));
        Due.takesOnly("sign of a kind without paths", 2, 3, OUTSIDE,
                kind -> kind == 0 || kind == 1 ? OUTSIDE : new TwigsAndStones().sign(0, kind, 0, 1, 0, true));
    }

    /** "both of a PATH at that PLACE"; "UNKNOWN: .. a PATH that is not there (KINDS 0, 1)". */
    static void signOfAPathIsOfOneThere() {
        for (int kind = THIS_WAY; kind <= NOT_THIS_WAY; kind++) {
            int k = kind;
            Due.takesOnly("path at 0", 0, 2, UNKNOWN, path -> Lands.star().sign(0, k, path, 1, 0, true));
            Due.takesOnly("path at 3", 2, 2, UNKNOWN, path -> Lands.star().sign(3, k, path, 1, 0, true));
            Due.is("path 0 at 1", Lands.star().sign(1, k, 0, 1, 0, true), 0);
            Due.is("path 1 at 1", Lands.star().sign(1, k, 1, 1, 0, true), UNKNOWN);
            Due.is("path 3 at 1", Lands.star().sign(1, k, 3, 1, 0, true), 0);
            Due.is("at a place without paths", Lands.star().sign(9, k, 0, 1, 0, true), UNKNOWN);
            Due.is("the sixteenth path", Lands.sixteenPaths().sign(9, k, 15, 1, 0, true), 0);
            Due.is("a seventeenth", Lands.sixteenPaths().sign(9, k, 16, 1, 0, true), UNKNOWN);
            Due.is("without paths", new TwigsAndStones().sign(0, k, 0, 1, 0, true), UNKNOWN);
        }
    }

    /** "2 STONES (a number 0 .. 9)"; "OUTSIDE: .. v of KINDS 2, 3". */
    static void stonesAreZeroToNine() {
        Due.takesOnly("stones", 0, 9, OUTSIDE, v -> Lands.star().sign(0, STONES, v, 1, 0, true));
    }

    /** "3 PAINT (a colour 0 .. 5)"; "OUTSIDE: .. v of KINDS 2, 3". */
    static void paintIsZeroToFive() {
        Due.takesOnly("paint", 0, 5, OUTSIDE, v -> Lands.star().sign(0, PAINT, v, 1, 0, true));
    }

    /** "with a LIFE (1 .. 60)"; "OUTSIDE: .. life". */
    static void lifeIsOneToSixty() {
        for (int kind = 0; kind <= 3; kind++) {
            int k = kind;
            Due.takesOnly("life of kind " + k, 1, 60, OUTSIDE, life -> Lands.star().sign(0, k, 0, life, 0, true));
        }
        TwigsAndStones x = Lands.star();
        x.sign(0, STONES, 1, 1, 0, true);
        x.sign(0, STONES, 1, 60, 0, true);
        Due.is("the least", x.at(0, 3), 1);
        Due.is("the most", x.at(1, 3), 60);
    }

    /** "laid on THE DAY": from the first to the last. */
    static void signIsLaidOnTheDay() {
        for (int day : new int[] {0, 1, 30, 399, 400}) {
            TwigsAndStones x = Lands.onDay(Lands.star(), day);
            x.sign(0, STONES, 1, 1, 0, true);
            Due.is("at(0, 4)", x.at(0, 4), day);
            Due.is("its life is whole", x.at(0, 3), 1);
        }
        TwigsAndStones y = Lands.star();
        y.sign(0, STONES, 1, 60, 0, true);
        y.days(30);
        Due.is("later it was laid then still", y.at(0, 4), 0);
    }

    /** "OUTSIDE: .. seen not bits of PATHS at the PLACE". */
    static void seenIsBitsOfPathsThere() {
        Due.takesOnly("seen at 0", 0, 7, OUTSIDE, seen -> Lands.star().sign(0, STONES, 1, 1, seen, false));
        Due.is("one path of 3", Lands.star().sign(3, STONES, 1, 1, 4, false), 0);
        Due.is("that and one elsewhere", Lands.star().sign(3, STONES, 1, 1, 6, false), OUTSIDE);
        Due.is("all of 1", Lands.star().sign(1, STONES, 1, 1, 9, false), 0);
        Due.is("all paths", Lands.star().sign(1, STONES, 1, 1, 15, false), OUTSIDE);
        for (int bit = 0; bit < 32; bit++) {
            Due.is("bit " + bit + " at 1", Lands.star().sign(1, STONES, 1, 1, 1 << bit, true), bit == 0 || bit == 3 ? 0 : OUTSIDE);
            Due.is("bit " + bit + " where no path is", Lands.star().sign(9, STONES, 1, 1, 1 << bit, true), OUTSIDE);
        }
        Due.is("the sixteenth path", Lands.sixteenPaths().sign(9, STONES, 1, 1, 1 << 15 | 1 << 8, false), 0);
        Due.is("a seventeenth", Lands.sixteenPaths().sign(9, STONES, 1, 1, 1 << 16, false), OUTSIDE);
    }

    /** A path there, no bit at all: seen by none who comes; without START by none at all. */
    static void signMayBeSeenByNone() {
        TwigsAndStones x = Lands.star();
        Due.is("sign", x.sign(0, STONES, 1, 1, 0, false), 0);
        for (int path = -1; path <= 2; path++) {
            Due.is("seen by " + path, x.seen(0, path), 0);
        }
        Due.is("it is not gone", x.count(2), 1);
    }

    // ---- promise 6

    /** "UNKNOWN: SIGN". */
    static void turnTakesSignsThatAreLaid() {
        Due.takesOnly("turn of a sign", 0, 2, UNKNOWN, sign -> {
            TwigsAndStones x = Lands.star();
            x.sign(0, THIS_WAY, 0, 9, 0, true);
            x.sign(0, THIS_WAY, 0, 9, 0, true);
            x.sign(0, THIS_WAY, 2, 9, 0, true);
            return x.turn(sign, 1);
        });
        Due.is("without signs", Lands.star().turn(0, 0), UNKNOWN);
        Due.is("the last of all", fullOfThisWays().turn(23, 1), 0);
        Due.is("behind the last of all", fullOfThisWays().turn(24, 1), UNKNOWN);
    }

    private static TwigsAndStones fullOfThisWays() {
        TwigsAndStones x = Lands.star();
        for (int i = 0; i < 24; i++) {
            x.sign(0, THIS_WAY, 0, 9, 7, true);
        }
        return x;
    }

    /** "UNKNOWN: .. a PATH that is not at its PLACE". */
    static void turnTakesPathsAtThePlace() {
        Due.takesOnly("turn to a path", 0, 1, UNKNOWN, path -> {
            TwigsAndStones x = Lands.star();
            x.sign(0, THIS_WAY, 2, 9, 0, true);
            return path == 2 ? UNKNOWN : x.turn(0, path);
        });
        TwigsAndStones y = Lands.star();
        y.sign(1, THIS_WAY, 3, 9, 0, true);
        Due.is("to path 1, elsewhere", y.turn(0, 1), UNKNOWN);
        Due.is("to path 4, nowhere", y.turn(0, 4), UNKNOWN);
        y.path(1, 9, 1);
        Due.is("to path 4, as it is there", y.turn(0, 4), 3);
        TwigsAndStones z = Lands.sixteenPaths();
        z.sign(9, THIS_WAY, 8, 9, 0, true);
        Due.is("to the sixteenth", z.turn(0, 15), 8);
        Due.is("to a seventeenth", z.turn(0, 16), UNKNOWN);
    }

    /** "NOT: it is none". */
    static void turnTakesThisWayAlone() {
        for (int kind = NOT_THIS_WAY; kind <= PAINT; kind++) {
            TwigsAndStones x = Lands.star();
            x.sign(0, kind, 0, 9, 7, true);
            Due.is("turn of kind " + kind, x.turn(0, 1), NOT);
            Due.is("v stays", x.at(0, 2), 0);
            Due.is("not turned", x.at(0, 5), 0);
        }
    }

    /** "NOT: .. it is GONE". */
    static void turnTakesNoGoneSign() {
        for (int life = 3; life <= 5; life++) {
            TwigsAndStones x = Lands.star();
            x.weather(2);
            x.sign(0, THIS_WAY, 0, life, 7, true);
            x.days(1);
            Due.is("turn with life " + (life - 4), x.turn(0, 1), life == 5 ? 0 : NOT);
            Due.is("v", x.at(0, 2), life == 5 ? 1 : 0);
            Due.is("turned", x.at(0, 5), life == 5 ? 1 : 0);
        }
    }

    /** "NOT: .. or of that PATH". */
    static void turnTakesAnotherPath() {
        for (int path = 0; path <= 2; path++) {
            TwigsAndStones x = Lands.star();
            x.sign(0, THIS_WAY, path, 9, 7, true);
            Due.is("turn to its path " + path, x.turn(0, path), NOT);
            Due.is("not turned", x.at(0, 5), 0);
        }
        TwigsAndStones y = Lands.star();
        y.sign(0, THIS_WAY, 0, 9, 7, true);
        Due.is("away", y.turn(0, 2), 0);
        Due.is("again", y.turn(0, 2), NOT);
        Due.is("back", y.turn(0, 0), 2);
        Due.is("again back", y.turn(0, 0), NOT);
    }

    /** "TURNED on THE DAY a THIS WAY is of another PATH at its PLACE": nothing else of it changes. */
    static void turnChangesThePathAlone() {
        TwigsAndStones x = Lands.star();
        x.sign(0, THIS_WAY, 0, 9, 5, true);
        x.days(4);
        Due.is("turn", x.turn(0, 2), 0);
        int[] due = {0, THIS_WAY, 2, 5, 0, 1};
        for (int what = 0; what <= 5; what++) {
            Due.is("at(0, " + what + ")", x.at(0, what), due[what]);
        }
        Due.is("seen by path 0", x.seen(0, 0), 1);
        Due.is("seen by path 1", x.seen(0, 1), 0);
        Due.is("seen by path 2", x.seen(0, 2), 1);
    }

    // ---- promise 7

    /** "UNKNOWN". */
    static void atTakesSignsThatAreLaid() {
        for (int what = 0; what <= 5; what++) {
            int w = what;
            Due.takesOnly("at(sign, " + w + ")", 0, 5, UNKNOWN, sign -> Lands.ordinary().at(sign, w));
            Due.takesOnly("at(sign, " + w + ") of all", 0, 23, UNKNOWN, sign -> Lands.full().at(sign, w));
        }
        Due.is("without signs", Lands.star().at(0, 0), UNKNOWN);
    }

    /** "Of a SIGN: 0 PLACE .. 5 whether it was TURNED"; "OUTSIDE". */
    static void atTakesWhatZeroToFive() {
        Due.takesOnly("at(0, what)", 0, 5, OUTSIDE, what -> Lands.ordinary().at(0, what));
        TwigsAndStones x = Lands.onDay(Lands.star(), 8);
        x.sign(3, NOT_THIS_WAY, 2, 7, 4, false);
        int[] due = {3, NOT_THIS_WAY, 2, 7, 8, 0};
        for (int what = 0; what <= 5; what++) {
            Due.is("at(0, " + what + ")", x.at(0, what), due[what]);
        }
    }

    /** A sign that is gone is asked as others are. */
    static void atAnswersOfGoneSigns() {
        TwigsAndStones x = Lands.onDay(Lands.star(), 8);
        x.sign(0, THIS_WAY, 1, 3, 4, false);
        x.turn(0, 2);
        x.days(3);
        int[] due = {0, THIS_WAY, 2, 0, 8, 1};
        for (int what = 0; what <= 5; what++) {
            Due.is("at(0, " + what + ")", x.at(0, what), due[what]);
        }
    }

    // ---- promise 8

    /** "FOG (0 .. 9; 0 at first)". */
    static void fogIsZeroToNine() {
        Due.takesOnly("set(0, v)", 0, 9, OUTSIDE, v -> new TwigsAndStones().set(0, v));
        Due.is("at first", new TwigsAndStones().set(0, 9), 0);
        dueKept(0, new int[] {0, 9, 4, 4, 0});
    }

    /** "LEEWAY (0 .. 9; 0 at first)". */
    static void leewayIsZeroToNine() {
        Due.takesOnly("set(1, v)", 0, 9, OUTSIDE, v -> new TwigsAndStones().set(1, v));
        Due.is("at first", new TwigsAndStones().set(1, 9), 0);
        dueKept(1, new int[] {0, 9, 4, 4, 0});
    }

    /** "REACH .. (1 .. 40; 12 at first)". */
    static void reachIsOneToForty() {
        Due.takesOnly("set(2, v)", 1, 40, OUTSIDE, v -> new TwigsAndStones().set(2, v));
        Due.is("at first", new TwigsAndStones().set(2, 40), 12);
        dueKept(2, new int[] {1, 40, 12, 12, 1});
    }

    private static void dueKept(int what, int[] row) {
        TwigsAndStones x = new TwigsAndStones();
        int was = x.set(what, row[0]);
        Due.is("at first", was, what == 2 ? 12 : 0);
        for (int i = 1; i < row.length; i++) {
            Due.is("that which it was", x.set(what, row[i]), row[i - 1]);
            Due.is("refused", x.set(what, 41), OUTSIDE);
        }
    }

    /** "FOG (what 0), LEEWAY (1), REACH (2)"; "OUTSIDE". */
    static void setTakesWhatZeroToTwo() {
        Due.takesOnly("set(what, 5)", 0, 2, OUTSIDE, what -> new TwigsAndStones().set(what, 5));
        TwigsAndStones x = new TwigsAndStones();
        x.set(0, 1);
        x.set(1, 2);
        x.set(2, 3);
        Due.is("each is its own: 0", x.set(0, 0), 1);
        Due.is("each is its own: 1", x.set(1, 0), 2);
        Due.is("each is its own: 2", x.set(2, 1), 3);
    }

    // ---- promise 9

    /** "UNKNOWN" (no such PLACE). */
    static void seenTakesPlacesZeroToNine() {
        Due.takesOnly("seen at a place", 0, 9, UNKNOWN, place -> Lands.star().seen(place, -1));
    }

    /** "by one who comes by a PATH (-1: who begins)"; "UNKNOWN: also a PATH that is not there". */
    static void seenTakesPathsThere() {
        Due.takesOnly("seen(0, path)", -1, 2, UNKNOWN, path -> Lands.star().seen(0, path));
        Due.takesOnly("seen(9, path) without paths", -1, -1, UNKNOWN, path -> Lands.star().seen(9, path));
        Due.is("path 2 is not at 1", Lands.star().seen(1, 2), UNKNOWN);
        Due.is("path 3 is at 1", Lands.star().seen(1, 3), 0);
        Due.is("path 3 is not at 0", Lands.star().seen(0, 3), UNKNOWN);
        Due.is("the sixteenth", Lands.sixteenPaths().seen(7, 15), 0);
        Due.is("a seventeenth", Lands.sixteenPaths().seen(7, 16), UNKNOWN);
        Due.is("a bit that wraps around", Lands.sixteenPaths().seen(1, 32), UNKNOWN);
    }

    /** "by bits": the last sign has the last bit. */
    static void seenTellsTheLastSign() {
        TwigsAndStones x = fullOfThisWays();
        Due.is("all", x.seen(0, 0), (1 << 24) - 1);
        TwigsAndStones y = Lands.star();
        for (int i = 0; i < 24; i++) {
            y.sign(i == 23 ? 0 : 1, STONES, 1, 9, 0, true);
        }
        Due.is("the last", y.seen(0, -1), 1 << 23);
        Due.is("all but the last", y.seen(1, -1), (1 << 23) - 1);
        Due.is("none", y.seen(2, -1), 0);
    }

    /** "SEEN by one who comes to the PLACE by some of the PATHS there". */
    static void seenByEachSetOfPaths() {
        for (int bits = 0; bits <= 7; bits++) {
            TwigsAndStones x = Lands.star();
            x.sign(0, PAINT, 1, 9, bits, false);
            Due.is("seen by who begins", x.seen(0, -1), 0);
            for (int path = 0; path <= 2; path++) {
                Due.is("seen " + bits + " by " + path, x.seen(0, path), bits >> path & 1);
            }
        }
    }

    /** "or begins there, if START is told of it". */
    static void seenByWhoBeginsIfStartIsTold() {
        TwigsAndStones x = Lands.star();
        x.sign(0, PAINT, 1, 9, 7, false);
        x.sign(0, PAINT, 1, 9, 0, true);
        x.sign(9, PAINT, 1, 9, 0, true);
        Due.is("who begins", x.seen(0, -1), 2);
        Due.is("who comes", x.seen(0, 0), 1);
        Due.is("where no paths are", x.seen(9, -1), 4);
    }

    /** "not SEEN by one who comes by a PATH that is less LONG than FOG": as long is seen. */
    static void fogHidesFromShorterPaths() {
        for (int length = 1; length <= 9; length++) {
            for (int fog = 0; fog <= 9; fog++) {
                TwigsAndStones x = new TwigsAndStones();
                x.path(4, 5, length);
                x.sign(4, THIS_WAY, 0, 9, 1, false);
                x.sign(4, NOT_THIS_WAY, 0, 9, 1, false);
                x.set(0, fog);
                Due.is(length + " long in fog " + fog, x.seen(4, 0), length < fog ? 0 : 3);
            }
        }
    }

    /** "a SIGN that is of a PATH": stones and paint are seen in all fog. */
    static void fogHidesNoStonesAndPaint() {
        TwigsAndStones x = new TwigsAndStones();
        x.path(4, 5, 1);
        x.sign(4, STONES, 0, 9, 1, false);
        x.sign(4, PAINT, 0, 9, 1, false);
        x.set(0, 9);
        Due.is("seen", x.seen(4, 0), 3);
    }

    /** "by one who comes by a PATH": who begins sees in all fog. */
    static void fogHidesNothingFromWhoBegins() {
        TwigsAndStones x = new TwigsAndStones();
        x.path(4, 5, 1);
        x.sign(4, THIS_WAY, 0, 9, 1, true);
        x.set(0, 9);
        Due.is("who begins", x.seen(4, -1), 1);
        Due.is("who comes", x.seen(4, 0), 0);
    }

    /** "One is GONE with LIFE 0": it is not seen then, on its last day it is. */
    static void goneSignsAreNotSeen() {
        for (int kind = 0; kind <= 3; kind++) {
            TwigsAndStones x = Lands.star();
            x.sign(0, kind, 0, 2, 7, true);
            x.days(1);
            Due.is("with life 1", x.seen(0, -1) + x.seen(0, 2), 2);
            x.days(1);
            Due.is("with life 0", x.seen(0, -1) + x.seen(0, 2), 0);
        }
    }

    /** "by some of the PATHS there .., or begins there": each of sixteen paths is another one than to begin. */
    static void startIsNoneOfSixteenPaths() {
        for (int path = 0; path <= 15; path++) {
            for (int place = 0; place <= 9; place++) {
                if (Lands.sixteenPaths().seen(place, path) != UNKNOWN) {
                    dueSeenByOneAlone(place, path);
                }
            }
        }
    }

    private static void dueSeenByOneAlone(int place, int path) {
        TwigsAndStones x = Lands.sixteenPaths();
        x.sign(place, PAINT, 1, 9, 1 << path, false);
        x.sign(place, PAINT, 1, 9, 0, true);
        for (int came = -1; came <= 15; came++) {
            if (x.seen(place, came) != UNKNOWN) {
                int due = came == path ? 1 : came == -1 ? 2 : 0;
                Due.is("at " + place + " for path " + path + ", come by " + came, x.seen(place, came), due);
            }
        }
    }
}
