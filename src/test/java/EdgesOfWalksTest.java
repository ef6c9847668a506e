/** Promises 10 to 15 (walk, walked, note, forget, ways, only): one test for each sentence that names a boundary case. */
public final class EdgesOfWalksTest {
    private static final int NONE = -1, UNKNOWN = -2, OUTSIDE = -3, FULL = -5;
    private static final int LOSS = 0, END = 1, CAMP = 2, AROUND = 3, FAR = 4;
    private static final int THIS_WAY = 0, NOT_THIS_WAY = 1, STONES = 2, PAINT = 3;
    private static final int MAX = Integer.MAX_VALUE, MIN = Integer.MIN_VALUE;

    public static void main(String[] args) {
        Due.runAll(EdgesOfWalksTest.class);
    }

    private static void dueWalk(String what, TwigsAndStones x, int place, int ending, int where, int paths, int length) {
        Due.is(what + ": ends", x.walk(place, 0), ending);
        Due.is(what + ": where", x.walk(place, 1), where);
        Due.is(what + ": paths", x.walk(place, 2), paths);
        Due.is(what + ": long", x.walk(place, 3), length);
        Due.is(what + ": begins", x.walked(place, 0), place);
        Due.is(what + ": last place", x.walked(place, paths), where);
        Due.is(what + ": no place more", x.walked(place, paths + 1), NONE);
    }

    // ---- promise 10: what is asked

    /** "UNKNOWN". */
    static void walkTakesPlacesZeroToNine() {
        for (int what = 0; what <= 3; what++) {
            int w = what;
            Due.takesOnly("walk from a place", 0, 9, UNKNOWN, place -> Lands.ordinary().walk(place, w));
            Due.takesOnly("walk without paths", 0, 9, UNKNOWN, place -> new TwigsAndStones().walk(place, w));
        }
    }

    /** "0 how it ends .. 3 how LONG in all"; "OUTSIDE". */
    static void walkTakesWhatZeroToThree() {
        Due.takesOnly("walk(0, what)", 0, 3, OUTSIDE, what -> Lands.ordinary().walk(0, what));
        Due.takesOnly("walk(9, what) without paths", 0, 3, OUTSIDE, what -> new TwigsAndStones().walk(9, what));
    }

    // ---- promise 10: how it goes

    /** "if there is no PATH but that by which it came, it is at THE END": also where there is none and it came by none. */
    static void endIsWhereNoOtherPathIs() {
        for (int place = 0; place <= 9; place++) {
            dueWalk("without paths", new TwigsAndStones(), place, END, place, 0, 0);
        }
        TwigsAndStones x = new TwigsAndStones();
        x.path(3, 4, 9);
        dueWalk("one path", x, 3, END, 4, 1, 9);
        dueWalk("from its other end", x, 4, END, 3, 1, 9);
        dueWalk("beside it", x, 5, END, 5, 0, 0);
    }

    /** A path more at the end: it goes on. Two more: it is at a loss. */
    static void pathMoreAtTheEndLeadsOn() {
        TwigsAndStones x = new TwigsAndStones();
        x.path(3, 4, 9);
        x.path(4, 5, 2);
        dueWalk("one more", x, 3, END, 5, 2, 11);
        x.path(4, 6, 2);
        dueWalk("two more", x, 3, LOSS, 4, 1, 9);
    }

    /** "by the latest laid THIS WAY that it SEES (of several the greatest number". */
    static void thisWayOfTheGreatestNumberLeads() {
        TwigsAndStones x = Lands.star();
        for (int path = 0; path <= 2; path++) {
            x.sign(0, THIS_WAY, path, 9, 0, true);
            Due.is("of one day", x.walked(0, 1), path + 1);
        }
        x.days(1);
        for (int path = 0; path <= 2; path++) {
            x.sign(0, THIS_WAY, path, 9, 0, true);
            Due.is("of the next day", x.walked(0, 1), path + 1);
        }
    }

    /** "that it SEES": one that is later, but not seen or gone, does not lead. */
    static void thisWayThatIsNotSeenLeadsNowhere() {
        TwigsAndStones x = Lands.star();
        x.sign(0, THIS_WAY, 2, 9, 0, true);
        x.sign(0, THIS_WAY, 0, 1, 0, true);
        x.sign(0, THIS_WAY, 1, 9, 7, false);
        Due.is("by the later of those seen", x.walked(0, 1), 1);
        x.days(1);
        Due.is("by the earlier, as that is gone", x.walked(0, 1), 3);
    }

    /** "TURNED": the latest laid leads still, by the path of which it is now. */
    static void turnedSignIsNotLaterLaid() {
        TwigsAndStones x = Lands.star();
        x.sign(0, THIS_WAY, 0, 9, 0, true);
        x.sign(0, THIS_WAY, 1, 9, 0, true);
        x.days(1);
        x.turn(0, 2);
        Due.is("the later laid leads", x.walked(0, 1), 2);
        x.turn(1, 0);
        Due.is("to where it was turned", x.walked(0, 1), 1);
    }

    /** "also by that by which it came". */
    static void thisWayMayLeadBack() {
        TwigsAndStones x = Lands.star();
        x.sign(0, THIS_WAY, 2, 9, 4, false);
        dueWalk("back to 3", x, 3, END, 3, 2, 18);
        TwigsAndStones y = new TwigsAndStones();
        y.path(0, 1, 4);
        y.sign(1, THIS_WAY, 0, 9, 1, false);
        dueWalk("back where there is no other path", y, 0, END, 0, 2, 8);
    }

    /** "all but one are barred": with three ahead one barred is too few, two are due, three too many. */
    static void allButOneAreBarred() {
        for (int bits = 0; bits <= 7; bits++) {
            TwigsAndStones x = Lands.star();
            for (int path = 0; path <= 2; path++) {
                if ((bits >> path & 1) == 1) {
                    x.sign(0, NOT_THIS_WAY, path, 9, 0, true);
                }
            }
            boolean leads = Integer.bitCount(bits) == 2;
            Due.is("barred " + bits, x.walk(0, 2) > 0 ? 1 : 0, leads ? 1 : 0);
            Due.is("ends, barred " + bits, x.walk(0, 0) == LOSS && x.walk(0, 2) == 0 ? 1 : 0, leads ? 0 : 1);
            Due.is("the next place", x.walked(0, 1), leads ? Integer.numberOfTrailingZeros(7 - bits) + 1 : NONE);
        }
    }

    /** "of all PATHS there but that by which it came": what is told of this one does not count. */
    static void pathByWhichItCameIsNotCounted() {
        TwigsAndStones x = Lands.star();
        x.sign(0, NOT_THIS_WAY, 2, 9, 4, false);
        dueWalk("that alone is barred", x, 3, LOSS, 0, 1, 9);
        x.sign(0, NOT_THIS_WAY, 1, 9, 4, false);
        Due.is("and another: by the third", x.walked(3, 2), 1);
        x.sign(0, NOT_THIS_WAY, 0, 9, 4, false);
        dueWalk("all are barred", x, 3, LOSS, 0, 1, 9);
    }

    /** By THIS WAY, by NOT THIS WAY: stones from 1 on and paint neither lead nor bar. */
    static void otherKindsNeitherLeadNorBar() {
        for (int kind = STONES; kind <= PAINT; kind++) {
            for (int v = kind == STONES ? 1 : 0; v <= (kind == STONES ? 9 : 5); v++) {
                TwigsAndStones x = Lands.star();
                x.sign(0, kind, v, 9, 7, true);
                dueWalk("at a loss still", x, 0, LOSS, 0, 0, 0);
                x.sign(0, NOT_THIS_WAY, 1, 9, 0, true);
                dueWalk("at a loss, as two are left", x, 0, LOSS, 0, 0, 0);
                x.sign(0, NOT_THIS_WAY, 2, 9, 0, true);
                Due.is("by the only one that is not barred", x.walked(0, 1), 1);
                TwigsAndStones y = new TwigsAndStones();
                y.path(0, 1, 1);
                y.sign(0, kind, v, 9, 0, true);
                dueWalk("by the only path", y, 0, END, 1, 1, 1);
            }
        }
    }

    /** Two signs that bar one path bar it once. */
    static void pathBarredTwiceIsBarredOnce() {
        TwigsAndStones x = Lands.star();
        x.sign(0, NOT_THIS_WAY, 1, 9, 0, true);
        x.sign(0, NOT_THIS_WAY, 1, 9, 0, true);
        dueWalk("one of three", x, 0, LOSS, 0, 0, 0);
        x.sign(0, NOT_THIS_WAY, 2, 9, 0, true);
        Due.is("two of three", x.walked(0, 1), 1);
    }

    /** "all but one": of one alone none need be barred; if it is, none is left. */
    static void oneAheadNeedsNoSign() {
        TwigsAndStones x = new TwigsAndStones();
        x.path(0, 1, 1);
        x.path(1, 2, 1);
        dueWalk("one ahead", x, 0, END, 2, 2, 2);
        x.sign(1, NOT_THIS_WAY, 1, 9, 1, false);
        dueWalk("that is barred", x, 0, LOSS, 1, 1, 1);
        x.sign(0, NOT_THIS_WAY, 0, 9, 0, true);
        dueWalk("and the first one too", x, 0, LOSS, 0, 0, 0);
    }

    /** "ahead" of what bars comes THIS WAY, though it be the earlier one and of a barred path. */
    static void thisWayIsAheadOfNotThisWay() {
        TwigsAndStones x = Lands.star();
        x.sign(0, THIS_WAY, 1, 9, 0, true);
        for (int path = 0; path <= 2; path++) {
            x.sign(0, NOT_THIS_WAY, path, 9, 0, true);
        }
        Due.is("by path 1", x.walked(0, 1), 2);
    }

    /** "STONES that it SEES with 0 are CAMP": with 0 alone, and if they are seen. */
    static void campIsStonesWithZero() {
        for (int number = 0; number <= 9; number++) {
            TwigsAndStones x = new TwigsAndStones();
            x.path(0, 1, 3);
            x.sign(1, STONES, number, 9, 1, false);
            dueWalk("stones " + number, x, 0, number == 0 ? CAMP : END, 1, 1, 3);
        }
        for (int kind : new int[] {THIS_WAY, NOT_THIS_WAY, PAINT}) {
            TwigsAndStones x = Lands.star();
            x.sign(0, kind, 0, 9, 7, true);
            Due.is("kind " + kind + " with 0 is none", x.walk(0, 0) == CAMP ? 1 : 0, 0);
        }
        TwigsAndStones y = new TwigsAndStones();
        y.path(0, 1, 3);
        y.sign(1, STONES, 0, 9, 0, true);
        dueWalk("not seen by who comes", y, 0, END, 1, 1, 3);
        dueWalk("seen by who begins", y, 1, CAMP, 1, 0, 0);
    }

    /** "(ahead of all else)": ahead of this way, of what is barred, of the end. */
    static void campIsAheadOfAllElse() {
        TwigsAndStones x = Lands.star();
        x.sign(0, STONES, 0, 9, 7, true);
        x.sign(0, THIS_WAY, 1, 9, 7, true);
        x.sign(0, NOT_THIS_WAY, 0, 9, 7, true);
        x.sign(0, NOT_THIS_WAY, 1, 9, 7, true);
        x.sign(0, STONES, 1, 9, 7, true);
        dueWalk("begun", x, 0, CAMP, 0, 0, 0);
        dueWalk("come", x, 3, CAMP, 0, 1, 9);
        TwigsAndStones y = new TwigsAndStones();
        y.sign(7, STONES, 0, 9, 0, true);
        dueWalk("where no paths are", y, 7, CAMP, 7, 0, 0);
    }

    /** A camp lasts as long as its stones. */
    static void campIsThereTillItIsGone() {
        TwigsAndStones x = new TwigsAndStones();
        x.path(0, 1, 3);
        x.weather(2);
        x.sign(1, STONES, 0, 5, 1, false);
        x.days(4);
        Due.is("with life 1", x.walk(0, 0), CAMP);
        x.days(1);
        Due.is("with life 0", x.walk(0, 0), END);
    }

    /** "AROUND: it comes by a PATH to a PLACE to which it came by that PATH before": at once then. */
    static void aroundIsAtTheSecondComing() {
        TwigsAndStones x = new TwigsAndStones();
        x.path(4, 5, 7);
        x.sign(4, THIS_WAY, 0, 60, 1, true);
        x.sign(5, THIS_WAY, 0, 60, 1, false);
        dueWalk("to and fro", x, 4, AROUND, 5, 3, 21);
    }

    /** "by that PATH": coming to the place by another one is not around. */
    static void comingByAnotherPathIsNotAround() {
        TwigsAndStones x = Lands.star();
        x.sign(0, THIS_WAY, 0, 60, 0, true);
        x.sign(1, THIS_WAY, 3, 60, 1, false);
        x.sign(2, THIS_WAY, 1, 60, 8, false);
        x.sign(0, THIS_WAY, 1, 60, 2, false);
        x.sign(2, THIS_WAY, 3, 60, 2, false);
        x.sign(1, THIS_WAY, 0, 60, 8, false);
        dueWalk("through 0, 1, 2 both ways round", x, 0, LOSS, 0, 6, 16);
    }

    /** The beginning is none of the places to which it came. */
    static void beginningIsNotComing() {
        TwigsAndStones x = new TwigsAndStones();
        x.path(0, 1, 1);
        x.path(1, 2, 2);
        x.path(2, 0, 4);
        x.sign(0, NOT_THIS_WAY, 2, 60, 0, true);
        dueWalk("a ring", x, 0, AROUND, 1, 4, 8);
    }

    /** "It goes 30 PATHS at most (FAR, if it would go on then)". */
    static void farIsBehindThirtyPaths() {
        LongWalk w = LongWalk.of(30, false);
        Due.is("a sign on", w.laySignAtEnd(THIS_WAY, w.pathNotGoneFromEnd()) >= 0 ? 1 : 0, 1);
        dueWalk("would go on", w.net, w.begin(), FAR, w.end(), 30, 30);
        Due.is("walked(30)", w.net.walked(w.begin(), 30), w.end());
        Due.is("walked(31)", w.net.walked(w.begin(), 31), NONE);
    }

    /** It would go on, if even to where it came before: it is not around yet. */
    static void farIsAheadOfAroundBehindThirty() {
        LongWalk w = LongWalk.of(30, false);
        w.laySignAtEnd(THIS_WAY, w.pathGoneFromEnd());
        dueWalk("would go on to where it was", w.net, w.begin(), FAR, w.end(), 30, 30);
    }

    /** "if it would go on then": at a loss behind thirty it would not. */
    static void lossBehindThirtyPathsIsNotFar() {
        LongWalk w = LongWalk.of(30, false);
        dueWalk("at a loss", w.net, w.begin(), LOSS, w.end(), 30, 30);
    }

    /** "if it would go on then": at a camp behind thirty it would not. */
    static void campBehindThirtyPathsIsNotFar() {
        LongWalk w = LongWalk.of(30, false);
        w.laySignAtEnd(STONES, 0);
        dueWalk("at a camp", w.net, w.begin(), CAMP, w.end(), 30, 30);
    }

    /** "if it would go on then": at the end behind thirty it would not. */
    static void endBehindThirtyPathsIsNotFar() {
        LongWalk w = LongWalk.of(29, true);
        Due.is("a sign to the end", w.laySignAtEnd(THIS_WAY, w.net.path(w.end(), 9, 2)), 23);
        dueWalk("at the end", w.net, w.begin(), END, 9, 30, 31);
    }

    /** The thirtieth path may lead around still. */
    static void aroundByTheThirtiethPathIsNotFar() {
        LongWalk w = LongWalk.of(29, false);
        w.laySignAtEnd(THIS_WAY, w.pathGoneFromEnd());
        Due.is("ends", w.net.walk(w.begin(), 0), AROUND);
        Due.is("paths", w.net.walk(w.begin(), 2), 30);
    }

    /** Behind twenty-nine it goes on. */
    static void twentyNinePathsAreNotFar() {
        LongWalk w = LongWalk.of(29, false);
        dueWalk("at a loss", w.net, w.begin(), LOSS, w.end(), 29, 29);
        w.laySignAtEnd(THIS_WAY, w.pathNotGoneFromEnd());
        Due.is("a sign more", w.net.walk(w.begin(), 2), 30);
    }

    // ---- promise 11

    /** "UNKNOWN". */
    static void walkedTakesPlacesZeroToNine() {
        Due.takesOnly("walked from a place", 0, 9, UNKNOWN, place -> Lands.ordinary().walked(place, 0));
        for (int place = 0; place <= 9; place++) {
            Due.is("behind no path", new TwigsAndStones().walked(place, 0), place);
        }
    }

    /** "OUTSIDE: i below 0". */
    static void walkedTakesNoIBelowZero() {
        for (int i : new int[] {-1, -2, -31, -65536, MIN + 1, MIN}) {
            Due.is("walked(0, " + i + ")", Lands.row().walked(0, i), OUTSIDE);
        }
    }

    /** "(0: where it begins); NONE: it has not so many". */
    static void walkedAnswersTillTheLastPlace() {
        for (int i = 0; i <= 9; i++) {
            Due.is("walked(0, " + i + ")", Lands.row().walked(0, i), i);
            Due.is("walked(9, " + i + ")", Lands.row().walked(9, i), 9 - i);
        }
        for (int i : new int[] {10, 11, 30, 31, 32, 65536, MAX - 1, MAX}) {
            Due.is("walked(0, " + i + ")", Lands.row().walked(0, i), NONE);
            Due.is("where no path is", new TwigsAndStones().walked(0, i), NONE);
        }
        Due.is("the first that a walk of no path has not", new TwigsAndStones().walked(0, 1), NONE);
    }

    /** "of that WALK": not of one asked for before. */
    static void walkedIsOfTheWalkAskedFor() {
        TwigsAndStones x = Lands.row();
        Due.is("a long one", x.walked(0, 9), 9);
        Due.is("one that begins between", x.walked(4, 1), NONE);
        Due.is("its length", x.walk(4, 3), 0);
        Due.is("the long one again", x.walked(0, 9), 9);
        Due.is("its length", x.walk(0, 3), 18);
    }

    // ---- promise 12

    /** "OUTSIDE: kinds (-1 .. 15)". */
    static void noteTakesKindsToFifteen() {
        Due.takesOnly("note", -1, 15, OUTSIDE, kinds -> new TwigsAndStones().note(kinds));
    }

    /** "NOTES (8 at most)"; "FULL". */
    static void notesAreEightAtMost() {
        TwigsAndStones x = Lands.row();
        for (int n = 1; n <= 8; n++) {
            Due.is("note", x.note(n == 8 ? 0 : -1), n);
        }
        Due.is("the ninth", x.note(-1), FULL);
        Due.is("and again", x.note(15), FULL);
        Due.is("count(4)", x.count(4), 8);
        Due.is("the only way has eight places", x.only(0, 7), 7);
        Due.is("and no more", x.only(0, 8), NONE);
    }

    // ---- promise 13

    /** "There are no NOTES any more: how many there were": from none to eight. */
    static void forgetAnswersHowManyThereWere() {
        for (int n = 0; n <= 8; n++) {
            TwigsAndStones x = Lands.star();
            for (int i = 0; i < n; i++) {
                x.note(9);
            }
            Due.is("forget()", x.forget(), n);
            Due.is("none are left", x.count(4), 0);
            Due.is("and again", x.forget(), 0);
            Due.is("ways without notes", x.ways(0), 1);
            Due.is("the next is the first", x.note(0), 1);
            Due.is("the old ones are not there", x.ways(0), 1);
        }
    }

    // ---- promise 14

    /** "UNKNOWN". */
    static void waysTakesPlacesZeroToNine() {
        Due.takesOnly("ways without notes", 0, 9, UNKNOWN, place -> new TwigsAndStones().ways(place));
        Due.takesOnly("ways", 0, 9, UNKNOWN, place -> Lands.ordinary().ways(place));
    }

    /** "(without NOTES 1)": wherever one begins, whatever is seen there. */
    static void waysWithoutNotesAreOne() {
        for (int place = 0; place <= 9; place++) {
            Due.is("a new object", new TwigsAndStones().ways(place), 1);
            TwigsAndStones x = Lands.full();
            x.forget();
            Due.is("a full one", x.ways(place), 1);
        }
    }

    /** "rows of PATHS, one fewer than NOTES": with one note none, so a place where no path is has a way. */
    static void oneNoteMakesWaysOfNoPath() {
        for (int place = 0; place <= 9; place++) {
            TwigsAndStones x = Lands.star();
            x.note(-1);
            Due.is("one note", x.ways(place), 1);
            x.note(-1);
            Due.is("two notes", x.ways(place), new int[] {3, 2, 2, 1, 0, 0, 0, 0, 0, 0}[place]);
        }
    }

    /** "what is SEEN .. is of just the KINDS noted (bits 0 .. 3": each set of kinds is its own. */
    static void kindsNotedAreJustThoseSeen() {
        for (int seen = 0; seen <= 15; seen++) {
            for (int noted = 0; noted <= 15; noted++) {
                TwigsAndStones x = Lands.star();
                for (int kind = 0; kind <= 3; kind++) {
                    if ((seen >> kind & 1) == 1) {
                        x.sign(0, kind, 0, 9, 0, true);
                        x.sign(0, kind, 1, 9, 0, true);
                    }
                }
                x.note(noted);
                Due.is("seen " + seen + ", noted " + noted, x.ways(0), seen == noted ? 1 : 0);
            }
        }
    }

    /** "-1: not known": whatever is seen fits. */
    static void notKnownFitsWhateverIsSeen() {
        for (int seen = 0; seen <= 15; seen++) {
            TwigsAndStones x = Lands.star();
            for (int kind = 0; kind <= 3; kind++) {
                if ((seen >> kind & 1) == 1) {
                    x.sign(0, kind, 0, 9, 0, true);
                }
            }
            x.note(-1);
            Due.is("seen " + seen, x.ways(0), 1);
        }
    }

    /** "none back by the PATH by which one just came, if there is another one": else back. */
    static void backOnlyWhereNoOtherPathIs() {
        TwigsAndStones x = new TwigsAndStones();
        x.path(0, 1, 1);
        for (int n = 1; n <= 3; n++) {
            x.note(-1);
        }
        Due.is("to and fro", x.ways(0), 1);
        Due.is("back at 0", x.only(0, 2), 0);
        x.path(1, 2, 1);
        Due.is("on", x.ways(0), 1);
        Due.is("to 2", x.only(0, 2), 2);
        Due.is("from the middle, to and fro at both ends", x.ways(1), 2);
    }

    /** "the PATH by which one just came": one gone earlier may come again. */
    static void pathGoneEarlierMayComeAgain() {
        TwigsAndStones x = new TwigsAndStones();
        x.path(0, 1, 1);
        x.path(1, 2, 1);
        x.path(2, 0, 1);
        for (int n = 1; n <= 8; n++) {
            x.note(-1);
            Due.is("ways by " + n + " notes round a ring", x.ways(0), n == 1 ? 1 : 2);
        }
    }

    /** "(not GONE, now)": what is seen is what is there when it is asked, not when it was noted. */
    static void notesAreComparedWithWhatIsThereNow() {
        TwigsAndStones x = Lands.star();
        x.sign(0, PAINT, 1, 2, 0, true);
        x.note(8);
        Due.is("there", x.ways(0), 1);
        x.days(1);
        Due.is("with life 1", x.ways(0), 1);
        x.days(1);
        Due.is("gone", x.ways(0), 0);
        x.sign(0, PAINT, 5, 1, 0, true);
        Due.is("another", x.ways(0), 1);
        x.sign(0, STONES, 1, 1, 0, true);
        Due.is("another kind more", x.ways(0), 0);
    }

    /** As many ways as there may be: by eight notes in a net of sixteen paths. */
    static void waysByEightNotesAreAllCounted() {
        TwigsAndStones x = new TwigsAndStones();
        for (int a = 0; a < 6; a++) {
            for (int b = a + 1; b < 6; b++) {
                x.path(a, b, 1);
            }
        }
        for (int n = 1; n <= 8; n++) {
            x.note(-1);
        }
        Due.is("five, then six times four", x.ways(5), 5 * 4 * 4 * 4 * 4 * 4 * 4);
        Due.is("no only one", x.only(5, 0), NONE);
    }

    // ---- promise 15

    /** "UNKNOWN". */
    static void onlyTakesPlacesZeroToNine() {
        Due.takesOnly("only without notes", 0, 9, UNKNOWN, place -> new TwigsAndStones().only(place, 0));
        Due.takesOnly("only", 0, 9, UNKNOWN, place -> Lands.ordinary().only(place, 0));
    }

    /** "OUTSIDE: i below 0": also if there is no only way. */
    static void onlyTakesNoIBelowZero() {
        for (int i : new int[] {-1, -2, -8, -65536, MIN + 1, MIN}) {
            Due.is("only(0, " + i + ") without notes", Lands.row().only(0, i), OUTSIDE);
            Due.is("only(1, " + i + ") of several", Lands.full().only(1, i), OUTSIDE);
            Due.is("only(0, " + i + ") of one", Lands.ordinary().only(0, i), OUTSIDE);
        }
    }

    /** "NONE: there is not just one": none, or two. */
    static void onlyIsNoneIfThereIsNotJustOne() {
        TwigsAndStones x = new TwigsAndStones();
        x.path(0, 1, 1);
        x.note(-1);
        x.note(-1);
        Due.is("one way", x.only(0, 1), 1);
        Due.is("one way, its beginning", x.only(0, 0), 0);
        x.path(0, 2, 1);
        Due.is("two ways", x.only(0, 1), NONE);
        Due.is("two ways, one beginning", x.only(0, 0), NONE);
        x.sign(2, PAINT, 1, 9, 2, false);
        x.note(15);
        Due.is("no way", x.ways(0), 0);
        Due.is("no way, its beginning", x.only(0, 0), NONE);
    }

    /** "NONE: .. or it has not so many": as many places as notes. */
    static void onlyHasAsManyPlacesAsNotes() {
        TwigsAndStones x = Lands.row();
        Due.is("without notes there is no place", x.only(0, 0), NONE);
        for (int n = 1; n <= 8; n++) {
            x.note(-1);
            for (int i = 0; i < n; i++) {
                Due.is("only(0, " + i + ") by " + n, x.only(0, i), i);
                Due.is("only(9, " + i + ") by " + n, x.only(9, i), 9 - i);
            }
            for (int i : new int[] {n, n + 1, 8, 9, 65536, MAX}) {
                Due.is("only(0, " + i + ") by " + n, x.only(0, i), NONE);
            }
        }
    }

    /** "if there is one alone, its PLACES": by each of sixteen paths, either way, at each note. */
    static void onlyWayMayGoByAnyPathAtAnyNote() {
        for (int path = 0; path <= 15; path++) {
            for (int turn = -1; turn <= 1; turn += 2) {
                for (int step = 1; step <= 7; step++) {
                    int[] way = wayInTheRing(path, turn, step);
                    TwigsAndStones x = ringWithSignsOnAWay(way);
                    String told = "by path " + path + ", turn " + turn + ", at note " + step;
                    Due.is(told, x.ways(way[0]), 1);
                    for (int i = 0; i <= 7; i++) {
                        Due.is(told + ", place " + i, x.only(way[0], i), way[i]);
                    }
                    Due.is(told + ", behind it", x.only(way[0], 8), NONE);
                }
            }
        }
    }

    /** Ten places in a ring by the paths 0 .. 9, six shorter ways past one place by 10 .. 15; signs for one way alone. */
    private static TwigsAndStones ringWithSignsOnAWay(int[] way) {
        TwigsAndStones x = new TwigsAndStones();
        for (int path = 0; path <= 15; path++) {
            x.path(path % 10, (path % 10 + (path < 10 ? 1 : 2)) % 10, 1);
        }
        x.sign(way[0], STONES, 1, 60, 0, true);
        x.note(1 << STONES);
        for (int i = 1; i < way.length; i++) {
            x.sign(way[i], PAINT, 0, 60, 1 << pathInTheRing(way[i - 1], way[i]), false);
            x.note(1 << PAINT);
        }
        return x;
    }

    private static int pathInTheRing(int a, int b) {
        int up = Math.floorMod(b - a, 10);
        int first = up <= 2 ? a : b;
        return up == 1 || up == 9 ? first : 10 + first;
    }

    /** Eight places of the ring, one after the other up (turn 1) or down (-1), with a path as the step of that number. */
    private static int[] wayInTheRing(int path, int turn, int step) {
        int past = path < 10 ? 1 : 2;
        int from = path % 10 + (turn == 1 ? 0 : past);
        int[] way = new int[8];
        for (int i = 0; i < 8; i++) {
            int steps = i < step ? i - step + 1 : i - step + past;
            way[i] = Math.floorMod(from + turn * steps, 10);
        }
        return way;
    }
}
