/** Promises 16 to 21: route, unroute, needed, trail, add, breaks. */
public final class RoutesAndTrailsTest {
    private static final int UNKNOWN = -2, OUTSIDE = -3, NOT = -4, FULL = -5;

    public static void main(String[] args) {
        routes();
        longestRoute();
        neededMarks();
        neededByWhatIsSeen();
        neededAtTheEnds();
        harmless();
        trails();
        faults();
        comingBack();
        longTrails();
        crossings();
        Due.end();
    }

    /** A row of places 0 .. 4 (paths 0 .. 3, each 2 long), with 5 at 1 (path 4, 3 long), 6 at 2 (5, 4 long). */
    private static TwigsAndStones comb() {
        TwigsAndStones x = new TwigsAndStones();
        for (int a = 0; a < 4; a++) {
            x.path(a, a + 1, 2);
        }
        x.path(1, 5, 3);
        x.path(2, 6, 4);
        return x;
    }

    private static TwigsAndStones routed() {
        TwigsAndStones x = comb();
        for (int place = 0; place <= 4; place++) {
            x.route(place);
        }
        return x;
    }

    private static void routes() {
        TwigsAndStones x = comb();
        Due.is("unroute nothing", x.unroute(), 0);
        Due.is("route(-1)", x.route(-1), UNKNOWN);
        Due.is("route(10)", x.route(10), UNKNOWN);
        Due.is("first", x.route(1), 1);
        Due.is("the same", x.route(1), NOT);
        Due.is("not joined", x.route(3), NOT);
        Due.is("joined", x.route(2), 2);
        Due.is("in it", x.route(1), NOT);
        Due.is("joined to the first, not the last", x.route(0), NOT);
        Due.is("third", x.route(6), 3);
        Due.is("unknown though nothing is joined", x.route(10), UNKNOWN);
        Due.is("places", x.count(5), 3);
        Due.is("unroute", x.unroute(), 3);
        Due.is("no places", x.count(5), 0);
        Due.is("a place without paths", x.route(9), 1);
        Due.is("then none", x.route(0), NOT);
    }

    private static void longestRoute() {
        TwigsAndStones x = new TwigsAndStones();
        for (int a = 0; a < 9; a++) {
            x.path(a, a + 1, 1);
        }
        x.path(9, 0, 1);
        for (int place = 0; place <= 9; place++) {
            Due.is("route(" + place + ")", x.route(place), place + 1);
        }
        Due.is("all places are in it", x.route(0), NOT);
        Due.is("ten", x.count(5), 10);
        Due.is("a path between both ends is wrong at each", x.needed(0), 1);
        Due.is("backward", x.needed(1), 1 << 9);
        Due.is("unroute ten", x.unroute(), 10);
    }

    private static void neededMarks() {
        TwigsAndStones x = comb();
        Due.is("no route", x.needed(0), 0);
        x.route(0);
        Due.is("one place, forward", x.needed(0), 0);
        Due.is("one place, backward", x.needed(1), 0);
        x = routed();
        Due.is("needed(-1)", x.needed(-1), OUTSIDE);
        Due.is("needed(2)", x.needed(2), OUTSIDE);
        Due.is("forward", x.needed(0), 6);
        Due.is("backward", x.needed(1), 6);
    }

    private static void neededByWhatIsSeen() {
        TwigsAndStones x = routed();
        x.sign(1, 0, 1, 5, 1, false);
        Due.is("a mark at 1 forward", x.needed(0), 4);
        Due.is("not backward", x.needed(1), 6);
        x.sign(1, 1, 4, 9, 2, false);
        Due.is("barred at 1 backward", x.needed(1), 4);
        x.sign(2, 0, 2, 9, 6, false);
        Due.is("a mark at 2 forward", x.needed(0), 0);
        Due.is("it leads back who comes backward", x.needed(1), 4);
        x.days(5);
        Due.is("a gone mark at 1", x.needed(0), 2);
        x.set(0, 3);
        Due.is("in fog", x.needed(0), 6);
        Due.is("in fog backward", x.needed(1), 6);
        TwigsAndStones y = routed();
        y.sign(1, 0, 1, 9, 3, false);
        y.sign(1, 2, 0, 9, 1, false);
        Due.is("who stays at a camp does not go right", y.needed(0), 6);
        TwigsAndStones w = comb();
        w.route(1);
        w.route(5);
        w.sign(1, 1, 1, 9, 0, true);
        Due.is("path 0 is wrong", w.needed(0), 2);
        w.set(1, 2);
        w.sign(1, 1, 0, 9, 0, true);
        Due.is("path 0 and path 1 are barred", w.needed(0), 0);
        TwigsAndStones v = new TwigsAndStones();
        v.path(0, 1, 4);
        v.path(0, 2, 1);
        v.route(0);
        v.route(2);
        v.set(1, 3);
        Due.is("path 0 is the only wrong one", v.needed(0), 1);
        TwigsAndStones z = routed();
        z.sign(1, 0, 1, 9, 1, false);
        z.turn(0, 4);
        Due.is("a turned mark", z.needed(0), 6);
        z.turn(0, 1);
        Due.is("turned back", z.needed(0), 4);
    }

    /** A cross: 0 joined to 1 .. 4; the route goes from 0 to 1, so it begins at a crossing. */
    private static void neededAtTheEnds() {
        TwigsAndStones x = new TwigsAndStones();
        for (int b = 1; b <= 4; b++) {
            x.path(0, b, 1);
        }
        x.route(0);
        x.route(1);
        Due.is("forward it begins at a crossing", x.needed(0), 1);
        Due.is("backward it ends at a crossing", x.needed(1), 0);
        x.sign(0, 0, 0, 9, 15, false);
        Due.is("a mark that who begins does not see", x.needed(0), 1);
        x.sign(0, 0, 0, 9, 0, true);
        Due.is("a mark that who begins sees", x.needed(0), 0);
        x.unroute();
        x.route(1);
        x.route(0);
        Due.is("backward it begins at a crossing", x.needed(1), 0);
        x.days(9);
        Due.is("without the mark", x.needed(1), 1);
        x.set(0, 9);
        x.sign(0, 0, 0, 9, 0, true);
        Due.is("who begins sees in fog", x.needed(1), 0);
        Due.is("forward it ends there", x.needed(0), 0);
    }

    private static void harmless() {
        TwigsAndStones x = routed();
        x.set(1, 2);
        Due.is("leeway less than both", x.needed(0), 6);
        x.set(1, 3);
        Due.is("leeway for the shorter", x.needed(0), 4);
        Due.is("backward too", x.needed(1), 4);
        x.set(1, 4);
        Due.is("leeway for both", x.needed(0), 0);
        x.path(5, 9, 1);
        Due.is("a way on behind", x.needed(0), 2);
        x.path(6, 5, 1);
        Due.is("ways on behind both", x.needed(1), 6);
        TwigsAndStones y = routed();
        y.set(1, 9);
        y.path(1, 3, 1);
        Due.is("a path to a place of the route is wrong", y.needed(0), 2 + 8);
        TwigsAndStones z = comb();
        z.path(1, 9, 5);
        z.route(0);
        z.route(1);
        z.route(2);
        z.set(1, 3);
        Due.is("one of two is not harmless", z.needed(0), 2);
        z.set(1, 5);
        Due.is("both are harmless", z.needed(0), 0);
        z.set(1, 9);
        Due.is("the way on behind the last place is not asked for", z.needed(1), 4);
    }

    private static void trails() {
        TwigsAndStones x = comb();
        Due.is("trail(-1)", x.trail(-1, true), UNKNOWN);
        Due.is("trail(10)", x.trail(10, false), UNKNOWN);
        Due.is("add to none", x.add(0, 0), UNKNOWN);
        Due.is("breaks of none", x.breaks(0), UNKNOWN);
        Due.is("breaks(-1)", x.breaks(-1), UNKNOWN);
        for (int i = 0; i < 6; i++) {
            Due.is("trail " + i, x.trail(0, i % 2 == 0), i);
        }
        Due.is("a seventh", x.trail(0, true), FULL);
        Due.is("unknown before full", x.trail(10, true), UNKNOWN);
        Due.is("add(-1, 1)", x.add(-1, 1), UNKNOWN);
        Due.is("add(6, 1)", x.add(6, 1), UNKNOWN);
        Due.is("add(0, 10)", x.add(0, 10), UNKNOWN);
        Due.is("add(0, -1)", x.add(0, -1), UNKNOWN);
        Due.is("add the same", x.add(0, 0), NOT);
        Due.is("add what is not joined", x.add(0, 2), NOT);
        Due.is("add", x.add(0, 1), 2);
        Due.is("add what is in it", x.add(0, 0), NOT);
        Due.is("add joined to the first alone", x.add(0, 5), 3);
        Due.is("add not joined to the last", x.add(0, 2), NOT);
        Due.is("another trail is its own", x.add(5, 1), 2);
        Due.is("count", x.count(6), 6);
    }

    private static void faults() {
        TwigsAndStones x = routed();
        x.trail(1, true);
        Due.is("begun on the route", x.breaks(0), 0);
        x.add(0, 5);
        Due.is("off the route", x.breaks(0), 0);
        x.set(2, 2);
        Due.is("longer than reach", x.breaks(0), 4);
        x.set(2, 3);
        Due.is("just as long", x.breaks(0), 0);
        x.trail(6, true);
        Due.is("begun off the route", x.breaks(1), 1);
        x.add(1, 2);
        Due.is("and to it, and too long", x.breaks(1), 7);
        x.set(2, 40);
        Due.is("and to it", x.breaks(1), 3);
        x.trail(2, true);
        Due.is("begun where the other has a place", x.breaks(2), 8);
        Due.is("that one too", x.breaks(1), 11);
        Due.is("the first one not", x.breaks(0), 0);
        x.trail(6, false);
        x.add(3, 2);
        x.add(3, 1);
        Due.is("a true one breaks nothing", x.breaks(3), 0);
        Due.is("and crosses nothing", x.breaks(0), 0);
        Due.is("unroute", x.unroute(), 5);
        Due.is("now begun off the route", x.breaks(0), 1);
        Due.is("now not to it", x.breaks(1), 9);
    }

    private static void comingBack() {
        TwigsAndStones x = routed();
        x.trail(1, true);
        x.add(0, 2);
        Due.is("along the route", x.breaks(0), 2);
        x.trail(0, true);
        Due.is("the beginning of the route is of it", x.breaks(1), 0);
        x.trail(4, true);
        Due.is("its end too", x.breaks(2), 0);
    }

    private static void longTrails() {
        TwigsAndStones x = new TwigsAndStones();
        for (int a = 0; a < 9; a++) {
            x.path(a + 1, a, 2);
        }
        x.route(0);
        x.trail(0, true);
        for (int place = 1; place <= 5; place++) {
            Due.is("add " + place, x.add(0, place), place + 1);
        }
        Due.is("a seventh place", x.add(0, 6), FULL);
        Due.is("not before full", x.add(0, 4), NOT);
        Due.is("not joined before full", x.add(0, 7), NOT);
        Due.is("10 long", x.breaks(0), 0);
        x.set(2, 10);
        Due.is("reach 10", x.breaks(0), 0);
        x.set(2, 9);
        Due.is("reach 9", x.breaks(0), 4);
        x.trail(9, true);
        x.trail(6, true);
        Due.is("beside it", x.breaks(0), 4);
        x.add(2, 5);
        Due.is("its last place crossed", x.breaks(0), 12);
        Due.is("not the one beside", x.breaks(1), 1);
    }

    private static void crossings() {
        TwigsAndStones x = new TwigsAndStones();
        x.path(0, 1, 1);
        x.path(0, 2, 1);
        x.path(1, 3, 1);
        x.path(2, 3, 1);
        x.path(3, 4, 1);
        x.route(0);
        x.trail(0, true);
        x.trail(0, true);
        Due.is("both begin there", x.breaks(0) + x.breaks(1), 0);
        x.add(0, 1);
        x.add(1, 2);
        Due.is("they part", x.breaks(0) + x.breaks(1), 0);
        x.add(0, 3);
        Due.is("one goes on", x.breaks(0), 0);
        x.add(1, 3);
        Due.is("they meet", x.breaks(0), 8);
        Due.is("both of them", x.breaks(1), 8);
        x.trail(4, true);
        Due.is("apart, off the route", x.breaks(2), 1);
        x.trail(4, true);
        Due.is("both begin off the route", x.breaks(3), 1);
        x.add(2, 3);
        Due.is("into the others", x.breaks(2), 9);
        Due.is("the other begins as this does", x.breaks(3), 1);
    }
}
