/** Promises 26 to 29: club, colour, whose, count. */
public final class ClubsTest {
    private static final int UNKNOWN = -2, OUTSIDE = -3, FULL = -5;

    public static void main(String[] args) {
        clubs();
        colours();
        owners();
        ownersByPaths();
        toldOutOfOrder();
        counts();
        Due.end();
    }

    /** Three paths; the clubs 0 and 1 have them all, club 2 path 0, club 3 none. */
    private static TwigsAndStones land() {
        TwigsAndStones x = new TwigsAndStones();
        x.path(0, 1, 1);
        x.path(1, 2, 1);
        x.path(2, 3, 1);
        x.club(0, 7);
        x.club(1, 7);
        x.club(2, 1);
        return x;
    }

    private static void clubs() {
        TwigsAndStones x = land();
        Due.is("club(-1)", x.club(-1, 0), UNKNOWN);
        Due.is("club(4)", x.club(4, 0), UNKNOWN);
        Due.is("club(4) with no paths", x.club(4, 8), UNKNOWN);
        Due.is("bits of no path", x.club(0, 8), OUTSIDE);
        Due.is("bits of a path and none", x.club(0, 9), OUTSIDE);
        Due.is("bits below 0", x.club(0, -1), OUTSIDE);
        Due.is("what it had", x.club(0, 5), 7);
        Due.is("what it had then", x.club(0, 0), 5);
        Due.is("nothing", x.club(0, 2), 0);
        Due.is("another club", x.club(2, 1), 1);
        Due.is("the last club", x.club(3, 4), 0);
        Due.is("without paths", new TwigsAndStones().club(0, 1), OUTSIDE);
    }

    private static void colours() {
        TwigsAndStones x = land();
        Due.is("colour of club -1", x.colour(-1, 0, 0), UNKNOWN);
        Due.is("colour of club 4", x.colour(4, 9, 0), UNKNOWN);
        Due.is("colour -1", x.colour(0, -1, 0), OUTSIDE);
        Due.is("colour 6", x.colour(0, 6, 0), OUTSIDE);
        Due.is("day -1", x.colour(0, 0, -1), OUTSIDE);
        Due.is("day 401", x.colour(0, 0, 401), OUTSIDE);
        for (int i = 1; i <= 8; i++) {
            Due.is("told " + i, x.colour(i % 4, i % 6, 400), i);
        }
        Due.is("a ninth", x.colour(0, 0, 0), FULL);
        Due.is("outside before full", x.colour(0, 6, 0), OUTSIDE);
        Due.is("unknown before full", x.colour(4, 0, 0), UNKNOWN);
        Due.is("the eighth is told", x.whose(0, 2, 400, 0), 1);
    }

    private static void owners() {
        TwigsAndStones x = land();
        Due.is("path -1", x.whose(-1, 0, 0, 0), UNKNOWN);
        Due.is("path 3", x.whose(3, 9, 0, 0), UNKNOWN);
        Due.is("colour -1", x.whose(0, -1, 0, 0), OUTSIDE);
        Due.is("colour 6", x.whose(0, 6, 0, 0), OUTSIDE);
        Due.is("day -1", x.whose(0, 0, -1, 0), OUTSIDE);
        Due.is("day 401", x.whose(0, 0, 401, 0), OUTSIDE);
        Due.is("way -1", x.whose(0, 0, 0, -1), OUTSIDE);
        Due.is("way 2", x.whose(0, 0, 0, 2), OUTSIDE);
        Due.is("nothing told", x.whose(0, 0, 400, 0), 0);
        Due.is("nothing told, old", x.whose(0, 0, 400, 1), 0);
        x.colour(0, 0, 0);
        x.colour(1, 5, 100);
        x.colour(0, 5, 200);
        x.colour(0, 0, 300);
        Due.is("from day 0 on", x.whose(0, 0, 0, 0), 1);
        Due.is("a day before", x.whose(0, 5, 99, 0), 0);
        Due.is("on the day", x.whose(0, 5, 100, 0), 2);
        Due.is("two clubs", x.whose(0, 5, 200, 0), 3);
        Due.is("not any more", x.whose(0, 0, 200, 0), 0);
        Due.is("but old", x.whose(0, 0, 200, 1), 1);
        Due.is("not old before", x.whose(0, 0, 199, 1), 0);
        Due.is("again", x.whose(0, 0, 300, 0), 1);
        Due.is("what it has again is not old", x.whose(0, 0, 300, 1), 0);
        Due.is("old then", x.whose(0, 5, 400, 1), 1);
        Due.is("one club", x.whose(0, 5, 400, 0), 2);
        Due.is("another colour", x.whose(0, 1, 400, 0), 0);
        Due.is("another colour, old", x.whose(0, 1, 400, 1), 0);
    }

    private static void ownersByPaths() {
        TwigsAndStones x = land();
        for (int club = 0; club < 4; club++) {
            x.colour(club, 4, 10);
        }
        Due.is("path 0", x.whose(0, 4, 10, 0), 7);
        Due.is("path 1", x.whose(1, 4, 10, 0), 3);
        Due.is("path 2, the last one", x.whose(2, 4, 10, 0), 3);
        for (int club = 0; club < 4; club++) {
            x.colour(club, 1, 20);
        }
        Due.is("path 0, old", x.whose(0, 4, 20, 1), 7);
        Due.is("path 1, old", x.whose(1, 4, 20, 1), 3);
        x.club(1, 0);
        x.club(3, 2);
        Due.is("other paths", x.whose(1, 1, 20, 0), 9);
        Due.is("other paths, old", x.whose(1, 4, 20, 1), 9);
    }

    private static void toldOutOfOrder() {
        TwigsAndStones x = land();
        x.colour(0, 2, 50);
        x.colour(0, 3, 30);
        Due.is("told later, from an earlier day", x.whose(0, 3, 49, 0), 1);
        Due.is("the later day is last", x.whose(0, 2, 50, 0), 1);
        Due.is("the earlier is old", x.whose(0, 3, 50, 1), 1);
        x.colour(0, 4, 50);
        Due.is("of the same day that told last", x.whose(0, 4, 50, 0), 1);
        Due.is("the one told before it is old", x.whose(0, 2, 50, 1), 1);
        Due.is("and not new", x.whose(0, 2, 50, 0), 0);
    }

    private static void counts() {
        TwigsAndStones x = new TwigsAndStones();
        x.path(0, 1, 1);
        x.path(1, 2, 1);
        x.path(2, 3, 1);
        for (int i = 0; i < 8; i++) {
            x.sign(0, 3, 0, i == 0 ? 1 : 9, 0, true);
        }
        x.days(4);
        for (int i = 0; i < 5; i++) {
            x.note(0);
            x.trail(0, true);
        }
        x.route(0);
        x.route(1);
        x.branch(1);
        int[] due = {3, 8, 7, 4, 5, 2, 5, 1};
        for (int what = 0; what <= 7; what++) {
            Due.is("count(" + what + ")", x.count(what), due[what]);
        }
        Due.is("count(-1)", x.count(-1), OUTSIDE);
        Due.is("count(8)", x.count(8), OUTSIDE);
    }
}
