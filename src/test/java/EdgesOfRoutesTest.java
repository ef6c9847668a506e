/** Promises 16 to 21 (route, unroute, needed, trail, add, breaks): one test for each sentence that names a boundary case. */
public final class EdgesOfRoutesTest {
    private static final int UNKNOWN = -2, OUTSIDE = -3, NOT = -4, FULL = -5;
    private static final int THIS_WAY = 0, NOT_THIS_WAY = 1, STONES = 2, PAINT = 3;

    public static void main(String[] args) {
        Due.runAll(EdgesOfRoutesTest.class);
    }

    private static TwigsAndStones routed(TwigsAndStones x, int... places) {
        for (int place : places) {
            x.route(place);
        }
        return x;
    }

    private static int trail(TwigsAndStones x, boolean isFalse, int... places) {
        int trail = x.trail(places[0], isFalse);
        for (int i = 1; i < places.length; i++) {
            x.add(trail, places[i]);
        }
        return trail;
    }

    // ---- promise 16

    /** "UNKNOWN". */
    static void routeTakesPlacesZeroToNine() {
        Due.takesOnly("first place of a route", 0, 9, UNKNOWN, place -> Lands.row().route(place));
        Due.takesOnly("first place without paths", 0, 9, UNKNOWN, place -> new TwigsAndStones().route(place));
        TwigsAndStones x = routed(Lands.row(), 9);
        Due.is("behind the last place", x.route(10), UNKNOWN);
        Due.is("before the first", routed(Lands.row(), 0).route(-1), UNKNOWN);
    }

    /** "NOT: .. no PATH joins it to the last one": the first needs none. */
    static void routeGoesOnByPaths() {
        for (int place = 0; place <= 9; place++) {
            TwigsAndStones x = routed(Lands.row(), 4, 5);
            Due.is("route 4, 5, " + place, x.route(place), place == 6 ? 3 : NOT);
            Due.is("how many", x.count(5), place == 6 ? 3 : 2);
        }
        TwigsAndStones y = routed(Lands.row(), 0);
        Due.is("over one place", y.route(2), NOT);
        y.path(0, 2, 1);
        Due.is("as there is a path", y.route(2), 2);
    }

    /** "none twice"; "NOT: it is in it": the first, one between, the last. */
    static void routeHasNoPlaceTwice() {
        TwigsAndStones x = Lands.row();
        x.path(0, 3, 1);
        x.path(1, 3, 1);
        routed(x, 0, 1, 2, 3);
        Due.is("the first, though joined", x.route(0), NOT);
        Due.is("the second, though joined", x.route(1), NOT);
        Due.is("the one before", x.route(2), NOT);
        Due.is("the last", x.route(3), NOT);
        Due.is("another", x.route(4), 5);
        TwigsAndStones y = routed(new TwigsAndStones(), 7);
        Due.is("the only one", y.route(7), NOT);
    }

    /** "A ROUTE is a row of PLACES (10 at most)"; "FULL: 10": all places are in it then, and NOT comes first. */
    static void routeHasTenPlacesAtMost() {
        TwigsAndStones x = Lands.row();
        x.path(9, 0, 1);
        for (int place = 0; place <= 9; place++) {
            Due.is("route(" + place + ")", x.route(place), place + 1);
        }
        for (int place = 0; place <= 9; place++) {
            Due.is("an eleventh, " + place, x.route(place), NOT);
        }
        Due.is("none but those", x.route(10), UNKNOWN);
        Due.is("count(5)", x.count(5), 10);
    }

    // ---- promise 17

    /** "THE ROUTE has no PLACES: how many it had": from none to ten. */
    static void unrouteAnswersHowManyItHad() {
        for (int n = 0; n <= 10; n++) {
            TwigsAndStones x = Lands.row();
            for (int place = 0; place < n; place++) {
                x.route(place);
            }
            Due.is("unroute()", x.unroute(), n);
            Due.is("none are left", x.count(5), 0);
            Due.is("and again", x.unroute(), 0);
            Due.is("any place is the first", x.route(8), 1);
            Due.is("an old one is not in it", x.route(7), 2);
        }
    }

    // ---- promise 18

    /** "forward (way 0), backward (1)"; "OUTSIDE". */
    static void neededTakesWaysZeroAndOne() {
        Due.takesOnly("needed", 0, 1, OUTSIDE, way -> Lands.ordinary().needed(way));
        Due.takesOnly("needed without a route", 0, 1, OUTSIDE, way -> new TwigsAndStones().needed(way));
    }

    /** Without places, and with one, which is the first and the last, none is needed. */
    static void neededNowhereOnRoutesOfNoPath() {
        TwigsAndStones x = Lands.star();
        for (int way = 0; way <= 1; way++) {
            Due.is("no place, way " + way, x.needed(way), 0);
        }
        x.route(0);
        for (int way = 0; way <= 1; way++) {
            Due.is("one place, way " + way, x.needed(way), 0);
        }
    }

    /** "At a PLACE of it that is not its last one, forward, and that is not its first one, backward". */
    static void neededNotAtTheLastNorBackwardAtTheFirst() {
        TwigsAndStones x = Lands.row();
        x.path(0, 3, 1);
        x.path(5, 8, 1);
        routed(x, 3, 4, 5);
        Due.is("forward at 3, not at 5", x.needed(0), 1 << 3);
        Due.is("backward at 5, not at 3", x.needed(1), 1 << 5);
        x.unroute();
        routed(x, 5, 4, 3);
        Due.is("told the other way, forward at 5", x.needed(0), 1 << 5);
        Due.is("backward at 3", x.needed(1), 1 << 3);
    }

    /** "(bits of their numbers)": the bits of the first and the last place. */
    static void neededTellsPlacesByBits() {
        TwigsAndStones x = Lands.row();
        x.path(0, 9, 1);
        routed(x, 0, 1, 2, 3, 4, 5, 6, 7, 8, 9);
        Due.is("forward", x.needed(0), 1);
        Due.is("backward", x.needed(1), 1 << 9);
        TwigsAndStones y = Lands.row();
        for (int place = 2; place <= 8; place++) {
            y.path(place, place == 8 ? 1 : 0, 1);
        }
        routed(y, 0, 1, 2, 3, 4, 5, 6, 7, 8, 9);
        Due.is("forward at 0 .. 8", y.needed(0), (1 << 9) - 1);
        Due.is("backward at 8 .. 1", y.needed(1), (1 << 9) - 2);
    }

    /** "one comes by the ROUTE (at its beginning: begins)". */
    static void neededByWhatOneSeesWhoComesByTheRoute() {
        TwigsAndStones x = routed(Lands.star(), 1, 0, 3);
        Due.is("at the beginning 1 and at 0", x.needed(0), 3);
        x.sign(1, THIS_WAY, 0, 9, 9, false);
        x.sign(0, THIS_WAY, 2, 9, 2, true);
        Due.is("not seen by who begins there, nor by who comes so", x.needed(0), 3);
        x.sign(1, THIS_WAY, 0, 9, 0, true);
        Due.is("seen by who begins", x.needed(0), 1);
        x.sign(0, THIS_WAY, 2, 9, 1, false);
        Due.is("seen by who comes by path 0", x.needed(0), 0);
    }

    /** "forward and backward each": backward one begins at the last place. */
    static void neededBackwardBeginsAtTheLastPlace() {
        TwigsAndStones x = routed(Lands.star(), 3, 0, 1);
        Due.is("at 0 and at the last place, 1", x.needed(1), 3);
        x.sign(1, THIS_WAY, 0, 9, 0, true);
        Due.is("seen by who begins there", x.needed(1), 1);
        x.sign(0, THIS_WAY, 2, 9, 4, true);
        Due.is("seen by who comes forward", x.needed(1), 1);
        x.sign(0, THIS_WAY, 2, 9, 1, false);
        Due.is("seen by who comes backward", x.needed(1), 0);
    }

    /** "by a PATH there that is not of the ROUTE next to it": there is none, no mark is needed. */
    static void neededNotWhereNoWrongPathIs() {
        TwigsAndStones x = routed(Lands.row(), 0, 1, 2, 3, 4, 5, 6, 7, 8, 9);
        Due.is("forward", x.needed(0), 0);
        Due.is("backward", x.needed(1), 0);
        x.sign(4, STONES, 0, 9, 8, false);
        Due.is("though one stays there", x.needed(0), 0);
        x.unroute();
        routed(x, 4, 5);
        Due.is("begun between", x.needed(0), 1 << 4);
        Due.is("backward", x.needed(1), 1 << 5);
    }

    /** "not of the ROUTE next to it": a path to a place of it farther on is wrong. */
    static void neededWherePathsCutTheRouteShort() {
        TwigsAndStones x = Lands.row();
        x.path(1, 3, 9);
        routed(x, 0, 1, 2, 3, 4);
        x.set(1, 9);
        Due.is("forward at both its ends", x.needed(0), 2 + 8);
        Due.is("backward, and at the last place for the path behind it", x.needed(1), 2 + 8 + 16);
    }

    /** "HARMLESS, if .. it is not LONGER than LEEWAY": as long is harmless. */
    static void harmlessIsNotLongerThanLeeway() {
        for (int length = 1; length <= 9; length++) {
            for (int leeway = 0; leeway <= 9; leeway++) {
                TwigsAndStones x = new TwigsAndStones();
                x.path(0, 1, 5);
                x.path(1, 2, 5);
                x.path(1, 3, length);
                x.set(1, leeway);
                routed(x, 0, 1, 2);
                int due = length <= leeway ? 0 : 2;
                Due.is(length + " long, leeway " + leeway, x.needed(0), due);
                Due.is(length + " long, leeway " + leeway + ", backward", x.needed(1), due);
            }
        }
    }

    /** "behind it there is no way on (its other end has no other PATH)": one other is a way on. */
    static void harmlessHasNoWayOn() {
        TwigsAndStones x = new TwigsAndStones();
        x.path(0, 1, 1);
        x.path(1, 2, 1);
        x.path(1, 3, 1);
        x.set(1, 9);
        routed(x, 0, 1, 2);
        Due.is("no way on", x.needed(0), 0);
        x.path(3, 4, 1);
        Due.is("one", x.needed(0), 2);
        x.path(3, 5, 1);
        Due.is("two", x.needed(0), 2);
    }

    /** "some WRONG PATH is not HARMLESS": one of several is enough. */
    static void neededIfOneOfSeveralIsNotHarmless() {
        for (int longOne = 0; longOne <= 2; longOne++) {
            TwigsAndStones x = new TwigsAndStones();
            x.path(0, 1, 1);
            x.path(1, 2, 1);
            for (int i = 0; i <= 2; i++) {
                x.path(1, 3 + i, i == longOne ? 6 : 5);
            }
            routed(x, 0, 1, 2);
            x.set(1, 4);
            Due.is("all are too long", x.needed(0), 2);
            x.set(1, 5);
            Due.is("one is too long", x.needed(0), 2);
            x.set(1, 6);
            Due.is("none is", x.needed(0), 0);
        }
    }

    /** "LEEWAY (.. 0 at first)": nothing is harmless then. */
    static void nothingIsHarmlessAtFirst() {
        TwigsAndStones x = new TwigsAndStones();
        x.path(0, 1, 1);
        x.path(1, 2, 1);
        x.path(1, 3, 1);
        routed(x, 0, 1, 2);
        Due.is("needed(0)", x.needed(0), 2);
        x.set(1, 1);
        Due.is("with leeway 1", x.needed(0), 0);
    }

    /** "a walker would not go right by what it SEES": led wrong, at a loss, at a camp. */
    static void neededIfTheWalkerDoesNotGoRight() {
        TwigsAndStones x = routed(Lands.star(), 3, 0, 1);
        Due.is("at a loss", x.needed(0), 1);
        x.sign(0, THIS_WAY, 0, 9, 4, false);
        Due.is("led right", x.needed(0), 0);
        x.sign(0, THIS_WAY, 1, 3, 4, false);
        Due.is("led wrong", x.needed(0), 1);
        x.turn(1, 2);
        Due.is("led back", x.needed(0), 1);
        x.turn(1, 0);
        Due.is("turned right", x.needed(0), 0);
        x.sign(0, STONES, 0, 2, 4, false);
        Due.is("at a camp", x.needed(0), 1);
        x.days(2);
        Due.is("that is gone", x.needed(0), 0);
        TwigsAndStones y = routed(Lands.star(), 3, 0, 1);
        y.sign(0, NOT_THIS_WAY, 1, 9, 4, false);
        Due.is("the wrong one is barred", y.needed(0), 0);
        y.sign(0, NOT_THIS_WAY, 0, 9, 4, false);
        Due.is("the right one, too", y.needed(0), 1);
        TwigsAndStones z = routed(Lands.star(), 3, 0, 1);
        z.sign(0, NOT_THIS_WAY, 0, 9, 4, false);
        Due.is("the right one alone", z.needed(0), 1);
        z.sign(0, PAINT, 1, 9, 4, false);
        Due.is("paint does not lead", z.needed(0), 1);
    }

    /** "by what it SEES (as in 2": in fog as long as the path by which it comes, and one more. */
    static void neededInFog() {
        TwigsAndStones x = routed(Lands.star(), 1, 0, 3);
        x.sign(1, THIS_WAY, 0, 9, 0, true);
        x.sign(0, THIS_WAY, 2, 9, 1, false);
        x.set(0, 2);
        Due.is("fog 2", x.needed(0), 0);
        x.set(0, 3);
        Due.is("fog 3: not seen at 0, at 1 who begins sees", x.needed(0), 1);
    }

    // ---- promise 19

    /** "UNKNOWN". */
    static void trailTakesPlacesZeroToNine() {
        Due.takesOnly("a false trail", 0, 9, UNKNOWN, place -> new TwigsAndStones().trail(place, true));
        Due.takesOnly("a true trail", 0, 9, UNKNOWN, place -> Lands.row().trail(place, false));
    }

    /** "A TRAIL (6 at most)"; "its number"; "FULL". */
    static void trailsAreSixAtMost() {
        for (int falseOnes = 0; falseOnes <= 1; falseOnes++) {
            TwigsAndStones x = Lands.row();
            for (int trail = 0; trail < 6; trail++) {
                Due.is("trail", x.trail(trail, falseOnes == 1), trail);
            }
            Due.is("a seventh, false", x.trail(0, true), FULL);
            Due.is("a seventh, true", x.trail(9, false), FULL);
            Due.is("count(6)", x.count(6), 6);
            Due.is("the sixth is there", x.add(5, 6), 2);
            Due.is("the seventh is not", x.add(6, 6), UNKNOWN);
        }
    }

    // ---- promise 20

    /** "UNKNOWN" (no such TRAIL). */
    static void addTakesTrailsThatAreTold() {
        Due.takesOnly("add to a trail", 0, 2, UNKNOWN, trail -> {
            TwigsAndStones x = Lands.row();
            for (int i = 0; i < 3; i++) {
                x.trail(4, true);
            }
            return x.add(trail, 5);
        });
        for (int place = 0; place <= 9; place++) {
            Due.is("without trails", Lands.row().add(0, place), UNKNOWN);
        }
    }

    /** "UNKNOWN" (no such PLACE). */
    static void addTakesPlacesThereAre() {
        Due.takesOnly("add a place", 1, 9, UNKNOWN, place -> {
            TwigsAndStones x = new TwigsAndStones();
            for (int b = 1; b <= 9; b++) {
                x.path(0, b, 1);
            }
            x.trail(place == 0 ? 10 : 0, true);
            return x.add(0, place);
        });
        TwigsAndStones y = Lands.row();
        y.trail(1, true);
        Due.is("place 0", y.add(0, 0), 2);
        Due.is("place -1, behind it", y.add(0, -1), UNKNOWN);
    }

    /** "NOT: it is in it": the first, one between, the last. */
    static void trailHasNoPlaceTwice() {
        TwigsAndStones x = Lands.row();
        x.path(0, 3, 1);
        x.path(1, 3, 1);
        trail(x, true, 0, 1, 2, 3);
        for (int place = 0; place <= 3; place++) {
            Due.is("add " + place, x.add(0, place), NOT);
        }
        Due.is("another", x.add(0, 4), 5);
        Due.is("in another trail it may be", x.trail(0, true), 1);
        Due.is("and be added", x.add(1, 3), 2);
    }

    /** "NOT: .. no PATH joins it to the last one". */
    static void trailGoesOnByPaths() {
        for (int place = 0; place <= 9; place++) {
            TwigsAndStones x = Lands.row();
            trail(x, true, 4, 5);
            Due.is("trail 4, 5, " + place, x.add(0, place), place == 6 ? 3 : NOT);
        }
        TwigsAndStones y = new TwigsAndStones();
        y.trail(3, true);
        Due.is("without paths", y.add(0, 4), NOT);
    }

    /** "a row of PLACES (2 .. 6)"; "how many"; "FULL: 6". */
    static void trailHasSixPlacesAtMost() {
        for (int falseOnes = 0; falseOnes <= 1; falseOnes++) {
            TwigsAndStones x = Lands.row();
            x.trail(9, true);
            x.trail(0, falseOnes == 1);
            for (int place = 1; place <= 5; place++) {
                Due.is("add " + place, x.add(1, place), place + 1);
            }
            Due.is("a seventh place", x.add(1, 6), FULL);
            Due.is("and again", x.add(1, 6), FULL);
            Due.is("another trail is not full", x.add(0, 8), 2);
        }
        TwigsAndStones y = Lands.full();
        for (int trail = 0; trail < 5; trail++) {
            Due.is("each is full", y.add(trail, trail + 6 > 9 ? 3 : trail + 6), trail + 6 > 9 ? NOT : FULL);
        }
    }

    // ---- promise 21

    /** "UNKNOWN". */
    static void breaksTakesTrailsThatAreTold() {
        Due.takesOnly("breaks", 0, 2, UNKNOWN, trail -> Lands.ordinary().breaks(trail));
        Due.takesOnly("breaks of six", 0, 5, UNKNOWN, trail -> Lands.full().breaks(trail));
        Due.is("without trails", Lands.row().breaks(0), UNKNOWN);
    }

    /** "a false one begins at a PLACE of THE ROUTE" (1): at the first and the last, too; without a route at none. */
    static void falseTrailBeginsOnTheRoute() {
        for (int place = 0; place <= 9; place++) {
            TwigsAndStones x = routed(Lands.row(), 3, 4, 5, 6);
            x.trail(place, true);
            Due.is("from " + place, x.breaks(0), place >= 3 && place <= 6 ? 0 : 1);
            x.unroute();
            Due.is("without a route", x.breaks(0), 1);
        }
    }

    /** "has no other PLACE of it" (2): the second place, the last place. */
    static void falseTrailHasNoOtherPlaceOfTheRoute() {
        TwigsAndStones x = Lands.row();
        x.path(3, 9, 1);
        routed(x, 3, 4);
        x.set(2, 40);
        trail(x, true, 3, 9, 8, 7, 6, 5);
        Due.is("none", x.breaks(0), 0);
        x.route(5);
        Due.is("the last one", x.breaks(0), 2);
        TwigsAndStones y = routed(Lands.row(), 3, 4);
        trail(y, true, 3, 4);
        Due.is("the second, along the route", y.breaks(0), 2);
        TwigsAndStones z = routed(Lands.row(), 3, 4);
        trail(z, true, 2, 3);
        Due.is("begun beside it", z.breaks(0), 3);
    }

    /** "is not longer than REACH in all" (4): as long is not. */
    static void falseTrailIsNotLongerThanReach() {
        for (int length = 1; length <= 9; length++) {
            TwigsAndStones x = new TwigsAndStones();
            for (int a = 0; a < 5; a++) {
                x.path(a, a + 1, length);
            }
            routed(x, 0);
            x.trail(0, true);
            for (int n = 1; n <= 5; n++) {
                x.add(0, n);
                for (int reach = 1; reach <= 40; reach++) {
                    x.set(2, reach);
                    Due.is(n * length + " long, reach " + reach, x.breaks(0), n * length > reach ? 4 : 0);
                }
            }
        }
    }

    /** "12 at first". */
    static void reachIsTwelveAtFirst() {
        for (int last = 1; last <= 3; last++) {
            TwigsAndStones x = new TwigsAndStones();
            x.path(0, 1, 5);
            x.path(1, 2, 5);
            x.path(2, 3, last);
            routed(x, 0);
            trail(x, true, 0, 1, 2, 3);
            Due.is(10 + last + " long", x.breaks(0), last == 3 ? 4 : 0);
        }
    }

    /** A trail of one place is not long at all. */
    static void trailOfOnePlaceIsNotLong() {
        TwigsAndStones x = routed(Lands.row(), 0);
        x.set(2, 1);
        x.trail(0, true);
        Due.is("one place", x.breaks(0), 0);
        x.add(0, 1);
        Due.is("two places, 2 long", x.breaks(0), 4);
    }

    /** "no two false ones have a PLACE in common but one where both begin" (8). */
    static void falseTrailsMeetWhereBothBeginAlone() {
        TwigsAndStones x = Lands.row();
        x.path(5, 9, 1);
        x.path(3, 9, 1);
        x.set(2, 40);
        routed(x, 5);
        trail(x, true, 5, 4, 3);
        int other = trail(x, true, 5);
        Due.is("both begin at 5", x.breaks(0), 0);
        Due.is("both begin at 5, the other", x.breaks(other), 0);
        x.add(other, 9);
        Due.is("they part", x.breaks(0) + x.breaks(other), 0);
        x.add(other, 3);
        Due.is("they meet at the last places of both", x.breaks(0), 8);
        Due.is("and the other", x.breaks(other), 8);
    }

    /** "but one where both begin": where one begins alone, both break it. */
    static void falseTrailsMeetWhereOneBegins() {
        TwigsAndStones x = routed(Lands.row(), 5, 4);
        trail(x, true, 5, 6, 7);
        trail(x, true, 7);
        Due.is("the last place of one", x.breaks(0), 8);
        Due.is("where the other begins, off the route", x.breaks(1), 9);
        TwigsAndStones y = routed(Lands.row(), 5, 4);
        trail(y, true, 7);
        trail(y, true, 5, 6, 7);
        Due.is("told the other way round", y.breaks(0), 9);
        Due.is("told the other way round", y.breaks(1), 8);
    }

    /** "for each": all four at once. */
    static void falseTrailMayBreakAll() {
        TwigsAndStones x = routed(Lands.row(), 4, 5);
        x.set(2, 1);
        trail(x, true, 3, 4);
        trail(x, true, 4);
        Due.is("all", x.breaks(0), 15);
        Due.is("the other begins on the route", x.breaks(1), 8);
    }

    /** "a true one by nothing"; "no two false ones": it crosses nothing either. */
    static void trueTrailBreaksNothing() {
        TwigsAndStones x = routed(Lands.row(), 4, 5);
        x.set(2, 1);
        trail(x, false, 3, 4);
        trail(x, true, 4);
        trail(x, false, 4, 3);
        Due.is("true", x.breaks(0), 0);
        Due.is("false, beside true ones alone", x.breaks(1), 0);
        Due.is("true", x.breaks(2), 0);
    }

    /** Each of the six is compared with each other one. */
    static void sixTrailsAreComparedAll() {
        for (int one = 0; one < 6; one++) {
            for (int other = 0; other < 6; other++) {
                TwigsAndStones x = routed(Lands.row(), 0);
                for (int trail = 0; trail < 6; trail++) {
                    x.trail(trail == one ? 8 : trail == other ? 9 : 0, true);
                }
                x.add(one, 9);
                int due = one == other ? 1 : 9;
                Due.is("trail " + one + " beside " + other, x.breaks(one), due);
                Due.is("and that", x.breaks(other), due);
                Due.is("the others", x.breaks(one == 0 || other == 0 ? one == 1 || other == 1 ? 2 : 1 : 0), 0);
            }
        }
    }
}
