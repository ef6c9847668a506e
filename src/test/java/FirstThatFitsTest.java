/**
 * "Refused ..: UNKNOWN, OUTSIDE, NOT, FULL: the first of these that fits": calls that are refused for more than one
 * reason, a test for each call that may be.
 */
public final class FirstThatFitsTest {
    private static final int UNKNOWN = -2, OUTSIDE = -3, NOT = -4, FULL = -5;
    private static final int THIS_WAY = 0, NOT_THIS_WAY = 1, STONES = 2, PAINT = 3;

    public static void main(String[] args) {
        Due.runAll(FirstThatFitsTest.class);
    }

    static void path() {
        TwigsAndStones x = Lands.full();
        TwigsAndStones y = Lands.ordinary();
        Due.is("unknown, and itself", y.path(10, 10, 1), UNKNOWN);
        Due.is("unknown, and too short", y.path(10, 0, 0), UNKNOWN);
        Due.is("unknown at the other end, and too long", y.path(0, -1, 10), UNKNOWN);
        Due.is("unknown, and full", x.path(0, 10, 1), UNKNOWN);
        Due.is("unknown, outside and full", x.path(-1, -1, 0), UNKNOWN);
        Due.is("too short, and one is there", y.path(0, 1, 0), OUTSIDE);
        Due.is("too long, and one is there", y.path(1, 0, 10), OUTSIDE);
        Due.is("itself, and too long", y.path(3, 3, 10), OUTSIDE);
        Due.is("itself, and full", x.path(3, 3, 1), OUTSIDE);
        Due.is("too short, and full", x.path(0, 9, 0), OUTSIDE);
        Due.is("too long, there, and full", x.path(0, 1, 10), OUTSIDE);
        Due.is("there, and full", x.path(0, 1, 1), NOT);
        Due.is("there the other way, and full", x.path(9, 7, 9), NOT);
        Due.is("full alone", x.path(0, 9, 1), FULL);
    }

    static void days() {
        TwigsAndStones x = Lands.full();
        Due.is("none, on the last day", x.days(0), OUTSIDE);
        Due.is("too many, and beyond 400", x.days(31), OUTSIDE);
        Due.is("beyond 400 alone", x.days(30), OUTSIDE);
    }

    static void signAtAnUnknownPlace() {
        TwigsAndStones x = Lands.ordinary();
        Due.is("and no kind", x.sign(10, 4, 0, 1, 0, true), UNKNOWN);
        Due.is("and no number of stones", x.sign(-1, STONES, 10, 1, 0, true), UNKNOWN);
        Due.is("and no colour", x.sign(10, PAINT, 6, 1, 0, true), UNKNOWN);
        Due.is("and no life", x.sign(10, PAINT, 0, 0, 0, true), UNKNOWN);
        Due.is("and seen by a path", x.sign(10, PAINT, 0, 1, 1, true), UNKNOWN);
        Due.is("and a path elsewhere", x.sign(10, THIS_WAY, 3, 1, 0, true), UNKNOWN);
        Due.is("and full", Lands.full().sign(10, PAINT, 0, 1, 0, true), UNKNOWN);
    }

    static void signOfAnUnknownPath() {
        for (int kind = THIS_WAY; kind <= NOT_THIS_WAY; kind++) {
            TwigsAndStones x = Lands.ordinary();
            Due.is("and life 0", x.sign(0, kind, 3, 0, 0, true), UNKNOWN);
            Due.is("and life 61", x.sign(0, kind, -1, 61, 0, true), UNKNOWN);
            Due.is("and seen by a path elsewhere", x.sign(0, kind, 16, 1, 8, true), UNKNOWN);
            Due.is("and full", Lands.full().sign(0, kind, 1, 1, 0, true), UNKNOWN);
            Due.is("and life 0, and full", Lands.full().sign(0, kind, 1, 0, -1, true), UNKNOWN);
        }
    }

    static void signOutside() {
        TwigsAndStones x = Lands.ordinary();
        TwigsAndStones y = Lands.full();
        Due.is("no kind, and no path there", x.sign(0, 4, 3, 1, 0, true), OUTSIDE);
        Due.is("kind -1, and no path", x.sign(0, -1, -1, 1, 0, true), OUTSIDE);
        Due.is("no kind, and full", y.sign(0, 4, 0, 1, 0, true), OUTSIDE);
        Due.is("stones, and full", y.sign(0, STONES, 10, 1, 0, true), OUTSIDE);
        Due.is("paint, and full", y.sign(0, PAINT, 6, 1, 0, true), OUTSIDE);
        Due.is("life, and full", y.sign(0, PAINT, 5, 61, 0, true), OUTSIDE);
        Due.is("seen, and full", y.sign(0, PAINT, 5, 60, 2, true), OUTSIDE);
        Due.is("full alone", y.sign(0, PAINT, 5, 60, 1, true), FULL);
        Due.is("full alone, of a path", y.sign(0, THIS_WAY, 0, 60, 1, true), FULL);
    }

    static void turn() {
        TwigsAndStones x = Lands.ordinary();
        Due.is("no sign, and no path", x.turn(6, 7), UNKNOWN);
        Due.is("no sign, though a path", x.turn(-1, 0), UNKNOWN);
        Due.is("no this way, and a path elsewhere", x.turn(1, 3), UNKNOWN);
        Due.is("stones, and no path", x.turn(2, 16), UNKNOWN);
        Due.is("paint, and path -1", x.turn(3, -1), UNKNOWN);
        Due.is("gone, and a path elsewhere", x.turn(4, 3), UNKNOWN);
        Due.is("gone, and of that path", x.turn(4, 1), NOT);
        Due.is("not this way, and of that path", x.turn(1, 2), NOT);
    }

    static void at() {
        TwigsAndStones x = Lands.ordinary();
        Due.is("no sign, and what 6", x.at(6, 6), UNKNOWN);
        Due.is("sign -1, and what -1", x.at(-1, -1), UNKNOWN);
        Due.is("without signs", new TwigsAndStones().at(0, 6), UNKNOWN);
    }

    static void seen() {
        Due.is("no place, and no path", Lands.ordinary().seen(10, 7), UNKNOWN);
        Due.is("no place, though a path", Lands.ordinary().seen(-1, 0), UNKNOWN);
    }

    static void walk() {
        TwigsAndStones x = Lands.ordinary();
        Due.is("no place, and what 4", x.walk(10, 4), UNKNOWN);
        Due.is("place -1, and what -1", x.walk(-1, -1), UNKNOWN);
    }

    static void walked() {
        TwigsAndStones x = Lands.ordinary();
        Due.is("no place, and i -1", x.walked(10, -1), UNKNOWN);
        Due.is("place -1, and i too great", x.walked(-1, 31), UNKNOWN);
    }

    static void note() {
        TwigsAndStones x = Lands.full();
        Due.is("kinds 16, and full", x.note(16), OUTSIDE);
        Due.is("kinds -2, and full", x.note(-2), OUTSIDE);
        Due.is("full alone", x.note(15), FULL);
    }

    static void only() {
        TwigsAndStones x = Lands.ordinary();
        Due.is("no place, and i -1", x.only(10, -1), UNKNOWN);
        Due.is("place -1, and i too great", x.only(-1, 8), UNKNOWN);
        Due.is("i -1, and no only way", Lands.full().only(0, -1), OUTSIDE);
    }

    static void route() {
        TwigsAndStones x = Lands.ordinary();
        Due.is("no place, and none is joined", x.route(10), UNKNOWN);
        Due.is("no place, and full", Lands.full().route(10), UNKNOWN);
        Due.is("no place, and full", Lands.full().route(-1), UNKNOWN);
        Due.is("in it, and not joined", x.route(3), NOT);
        Due.is("in it, and full", Lands.full().route(8), NOT);
    }

    static void trail() {
        TwigsAndStones x = Lands.full();
        Due.is("no place, and full", x.trail(10, true), UNKNOWN);
        Due.is("place -1, and full", x.trail(-1, false), UNKNOWN);
        Due.is("full alone", x.trail(0, false), FULL);
    }

    static void add() {
        TwigsAndStones x = Lands.ordinary();
        TwigsAndStones y = Lands.full();
        Due.is("no trail, and no place", x.add(3, 10), UNKNOWN);
        Due.is("no trail, though a place", x.add(-1, 0), UNKNOWN);
        Due.is("no place, and none is joined", x.add(0, 10), UNKNOWN);
        Due.is("no trail, and full ones", y.add(6, 0), UNKNOWN);
        Due.is("no place, and full", y.add(0, -1), UNKNOWN);
        Due.is("in it, and full", y.add(0, 4), NOT);
        Due.is("the first, and full", y.add(0, 0), NOT);
        Due.is("not joined, and full", y.add(0, 8), NOT);
        Due.is("in it, and not joined", x.add(2, 5), NOT);
        Due.is("full alone", y.add(0, 6), FULL);
    }

    static void branch() {
        TwigsAndStones x = Lands.full();
        Due.is("too short, and full", x.branch(0), OUTSIDE);
        Due.is("too long, and full", x.branch(21), OUTSIDE);
        Due.is("full alone", x.branch(20), FULL);
    }

    static void split() {
        TwigsAndStones x = Lands.ordinary();
        Due.is("no branch, and no hounds", x.split(0, 3, 0), UNKNOWN);
        Due.is("no branch, and four hounds", x.split(4, -1, 0), UNKNOWN);
        Due.is("no branch, and what 2", x.split(1, 3, 2), UNKNOWN);
        Due.is("no branch, no hounds, what -1", x.split(0, 3, -1), UNKNOWN);
        Due.is("no hounds, and what 2", x.split(0, 0, 2), OUTSIDE);
        Due.is("without branches, and four hounds", new TwigsAndStones().split(4, 0, 0), UNKNOWN);
    }

    static void club() {
        TwigsAndStones x = Lands.ordinary();
        Due.is("no club, and no paths", x.club(4, 128), UNKNOWN);
        Due.is("club -1, and all bits", x.club(-1, -1), UNKNOWN);
    }

    static void colour() {
        TwigsAndStones x = Lands.ordinary();
        TwigsAndStones y = Lands.full();
        Due.is("no club, and no colour", x.colour(4, 6, 0), UNKNOWN);
        Due.is("no club, and no day", x.colour(-1, 0, 401), UNKNOWN);
        Due.is("no club, and full", y.colour(4, 0, 0), UNKNOWN);
        Due.is("no colour, and full", y.colour(0, 6, 0), OUTSIDE);
        Due.is("colour -1, and full", y.colour(0, -1, 0), OUTSIDE);
        Due.is("day 401, and full", y.colour(0, 0, 401), OUTSIDE);
        Due.is("day -1, and full", y.colour(0, 0, -1), OUTSIDE);
        Due.is("full alone", y.colour(0, 0, 0), FULL);
    }

    static void whose() {
        TwigsAndStones x = Lands.ordinary();
        Due.is("no path, and no colour", x.whose(7, 6, 0, 0), UNKNOWN);
        Due.is("no path, and no day", x.whose(-1, 0, 401, 0), UNKNOWN);
        Due.is("no path, and no way", x.whose(16, 0, 0, 2), UNKNOWN);
        Due.is("without paths, and nothing as told", new TwigsAndStones().whose(0, -1, -1, -1), UNKNOWN);
    }
}
