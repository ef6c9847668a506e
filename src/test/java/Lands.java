/** Objects in the states that tests begin with; a new one each time. */
final class Lands {
    private Lands() {
    }

    /** Place 0 joined to 1, 2, 3 by the paths 0 (2 long), 1 (5 long), 2 (9 long); 1 to 2 by path 3 (1 long). */
    static TwigsAndStones star() {
        TwigsAndStones x = new TwigsAndStones();
        x.path(0, 1, 2);
        x.path(0, 2, 5);
        x.path(3, 0, 9);
        x.path(1, 2, 1);
        return x;
    }

    /** The places 0 .. 9 in a row, joined by the paths 0 .. 8, each 2 long. */
    static TwigsAndStones row() {
        TwigsAndStones x = new TwigsAndStones();
        for (int a = 0; a < 9; a++) {
            x.path(a, a + 1, 2);
        }
        return x;
    }

    /** Sixteen paths: the row by 0 .. 8 (1 .. 9 long), and seven more among its places. */
    static TwigsAndStones sixteenPaths() {
        TwigsAndStones x = new TwigsAndStones();
        for (int a = 0; a < 9; a++) {
            x.path(a, a + 1, a + 1);
        }
        x.path(0, 2, 3);
        x.path(0, 3, 4);
        x.path(1, 3, 9);
        x.path(4, 6, 1);
        x.path(5, 7, 2);
        x.path(6, 8, 8);
        x.path(7, 9, 7);
        return x;
    }

    /** Lets just so many days go by. */
    static TwigsAndStones onDay(TwigsAndStones x, int day) {
        for (int left = day - x.count(3); left > 0; left -= 30) {
            x.days(Math.min(left, 30));
        }
        return x;
    }

    /** Nothing was told. */
    static TwigsAndStones empty() {
        return new TwigsAndStones();
    }

    /** Some of all: 7 paths, 6 signs (4 is gone), day 4, 2 notes with one way, a route, 3 trails, 3 branches, 3 colours. */
    static TwigsAndStones ordinary() {
        TwigsAndStones x = star();
        x.path(3, 4, 4);
        x.path(4, 5, 3);
        x.path(2, 6, 6);
        x.weather(1);
        x.sign(1, 0, 3, 20, 1, true);
        x.days(2);
        x.sign(0, 1, 2, 30, 7, true);
        x.sign(2, 2, 7, 40, 10, true);
        x.sign(3, 3, 4, 50, 4, false);
        x.sign(0, 0, 1, 4, 0, true);
        x.sign(4, 0, 5, 60, 16, true);
        x.days(2);
        x.turn(5, 4);
        x.set(0, 3);
        x.set(1, 4);
        x.set(2, 10);
        x.note(-1);
        x.note(4);
        x.route(3);
        x.route(0);
        x.route(2);
        x.route(6);
        x.trail(0, true);
        x.add(0, 1);
        x.trail(2, true);
        x.add(1, 1);
        x.trail(5, false);
        x.add(2, 4);
        x.add(2, 3);
        x.branch(4);
        x.branch(9);
        x.branch(2);
        x.club(0, 11);
        x.club(2, 4);
        x.colour(0, 2, 10);
        x.colour(0, 3, 30);
        x.colour(2, 2, 20);
        return x;
    }

    /** As much of all as there may be: paths, days, signs, notes, a route, trails, branches, colours. */
    static TwigsAndStones full() {
        TwigsAndStones x = onDay(sixteenPaths(), 395);
        for (int i = 0; i < 24; i++) {
            int place = i % 10;
            int path = Math.min(place, 8);
            int kind = i % 4;
            int v = kind < 2 ? path : i % 6;
            x.sign(place, kind, v, 60 - i, place == 0 ? 1 : 1 << (place - 1), i % 3 == 0);
        }
        x.weather(2);
        onDay(x, 400);
        x.set(0, 9);
        x.set(1, 9);
        x.set(2, 40);
        for (int i = 0; i < 8; i++) {
            x.note(-1);
        }
        for (int place = 0; place <= 9; place++) {
            x.route(place);
        }
        for (int t = 0; t < 6; t++) {
            boolean up = t < 5;
            x.trail(up ? t : 9, t % 2 == 0);
            for (int i = 1; i < 6; i++) {
                x.add(t, up ? t + i : 9 - i);
            }
        }
        for (int b = 0; b < 5; b++) {
            x.branch(20 - 3 * b);
        }
        for (int t = 0; t < 8; t++) {
            x.colour(t % 4, t % 6, 50 * t);
        }
        for (int club = 0; club < 4; club++) {
            x.club(club, 65535 >> club);
        }
        return x;
    }
}
