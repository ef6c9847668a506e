/** Promises 1 to 9: a new object, path, weather, days, sign, turn, at, set, seen. */
public final class PathsAndSignsTest {
    private static final int UNKNOWN = -2, OUTSIDE = -3, NOT = -4, FULL = -5;
    private static final int MIN = Integer.MIN_VALUE, MAX = Integer.MAX_VALUE;

    public static void main(String[] args) {
        newObject();
        paths();
        fullNet();
        weathers();
        daysGoBy();
        dayLimit();
        signsRefused();
        signsLaid();
        fullSigns();
        turns();
        tellings();
        settings();
        sights();
        fog();
        Due.end();
    }

    private static void newObject() {
        TwigsAndStones x = new TwigsAndStones();
        for (int what = 0; what <= 7; what++) {
            Due.is("new count(" + what + ")", x.count(what), 0);
        }
        Due.is("new weather", x.weather(0), 0);
        Due.is("new fog", x.set(0, 0), 0);
        Due.is("new leeway", x.set(1, 0), 0);
        Due.is("new reach", x.set(2, 12), 12);
        Due.is("new club", x.club(3, 0), 0);
    }

    private static void paths() {
        TwigsAndStones x = new TwigsAndStones();
        Due.is("path place -1", x.path(-1, 0, 1), UNKNOWN);
        Due.is("path place 10", x.path(0, 10, 1), UNKNOWN);
        Due.is("path place MAX", x.path(MAX, MIN, 1), UNKNOWN);
        Due.is("path unknown before outside", x.path(10, 10, 0), UNKNOWN);
        Due.is("path to itself", x.path(4, 4, 1), OUTSIDE);
        Due.is("path 0 long", x.path(0, 1, 0), OUTSIDE);
        Due.is("path 10 long", x.path(0, 1, 10), OUTSIDE);
        Due.is("refused paths are none", x.count(0), 0);
        Due.is("first path", x.path(9, 0, 9), 0);
        Due.is("second path", x.path(0, 8, 1), 1);
        Due.is("path there", x.path(9, 0, 3), NOT);
        Due.is("path there, from the other end", x.path(0, 9, 3), NOT);
        Due.is("outside before not", x.path(0, 9, 10), OUTSIDE);
        Due.is("two paths", x.count(0), 2);
    }

    private static void fullNet() {
        TwigsAndStones x = new TwigsAndStones();
        for (int b = 1; b <= 9; b++) {
            Due.is("path 0-" + b, x.path(0, b, b), b - 1);
        }
        for (int b = 2; b <= 8; b++) {
            Due.is("path 1-" + b, x.path(1, b, 1), 7 + b);
        }
        Due.is("a 17th path", x.path(1, 9, 1), FULL);
        Due.is("not before full", x.path(1, 8, 1), NOT);
        Due.is("outside before full", x.path(1, 9, 0), OUTSIDE);
        Due.is("sixteen paths", x.count(0), 16);
        Due.is("sign of the 16th path", x.sign(8, 0, 15, 1, 1 << 15, false), 0);
        Due.is("seen by it", x.seen(8, 15), 1);
        Due.is("all paths of a club", x.club(0, 0xFFFF), 0);
        Due.is("a 17th path of a club", x.club(0, 0x10000), OUTSIDE);
        Due.is("all paths had", x.club(0, 0), 0xFFFF);
    }

    private static void weathers() {
        TwigsAndStones x = new TwigsAndStones();
        Due.is("weather(2)", x.weather(2), 0);
        Due.is("weather(-1)", x.weather(-1), OUTSIDE);
        Due.is("weather(3)", x.weather(3), OUTSIDE);
        Due.is("weather(1)", x.weather(1), 2);
        x.days(1);
        Due.is("the weather stays", x.weather(0), 1);
    }

    private static void daysGoBy() {
        int[] losses = {1, 2, 4};
        for (int weather = 0; weather <= 2; weather++) {
            TwigsAndStones x = Lands.star();
            x.sign(0, 0, 0, 60, 0, true);
            x.sign(0, 1, 1, 60, 0, true);
            x.sign(0, 2, 7, 60, 0, true);
            x.sign(0, 3, 5, 60, 0, true);
            x.sign(0, 0, 0, 7, 0, true);
            x.weather(weather);
            Due.is("days(3)", x.days(3), 3);
            for (int kind = 0; kind <= 3; kind++) {
                int lost = kind == 2 ? 3 : 3 * losses[weather];
                Due.is("life of kind " + kind + " in weather " + weather, x.at(kind, 3), 60 - lost);
            }
            Due.is("life does not go below 0", x.at(4, 3), Math.max(0, 7 - 3 * losses[weather]));
            Due.is("those not gone", x.count(2), weather == 2 ? 4 : 5);
            Due.is("gone ones are signs", x.count(1), 5);
        }
        TwigsAndStones y = Lands.star();
        y.sign(0, 2, 7, 30, 0, true);
        y.sign(0, 3, 1, 31, 0, true);
        Due.is("days(30)", y.days(30), 30);
        Due.is("stones worn in 30 days", y.at(0, 3), 0);
        Due.is("a day is left", y.at(1, 3), 1);
        Due.is("one is left", y.count(2), 1);
    }

    private static void dayLimit() {
        TwigsAndStones x = Lands.star();
        x.sign(0, 2, 7, 60, 0, true);
        Due.is("days(0)", x.days(0), OUTSIDE);
        Due.is("days(-1)", x.days(-1), OUTSIDE);
        Due.is("days(31)", x.days(31), OUTSIDE);
        Due.is("days(MAX)", x.days(MAX), OUTSIDE);
        Due.is("refused days do not wear", x.at(0, 3), 60);
        Due.is("refused days do not go by", x.count(3), 0);
        for (int i = 1; i <= 13; i++) {
            Due.is("days(30) again", x.days(30), 30 * i);
        }
        x.sign(0, 2, 7, 60, 0, true);
        Due.is("beyond 400", x.days(11), OUTSIDE);
        Due.is("the day stays", x.count(3), 390);
        Due.is("the sign stays", x.at(1, 3), 60);
        Due.is("to 400", x.days(10), 400);
        Due.is("401", x.days(1), OUTSIDE);
        Due.is("laid on day 400", x.sign(0, 2, 7, 60, 0, true), 2);
        Due.is("its day", x.at(2, 4), 400);
    }

    private static void signsRefused() {
        TwigsAndStones x = Lands.star();
        Due.is("sign place -1", x.sign(-1, 2, 0, 1, 0, true), UNKNOWN);
        Due.is("sign place 10", x.sign(10, 9, 0, 1, 0, true), UNKNOWN);
        Due.is("this way by a path elsewhere", x.sign(0, 0, 3, 1, 0, true), UNKNOWN);
        Due.is("not this way by a path elsewhere", x.sign(0, 1, 3, 1, 0, true), UNKNOWN);
        Due.is("no such path", x.sign(0, 0, 4, 1, 0, true), UNKNOWN);
        Due.is("path -1", x.sign(0, 1, -1, 1, 0, true), UNKNOWN);
        Due.is("path 32", x.sign(0, 0, 32, 1, 0, true), UNKNOWN);
        Due.is("path MIN", x.sign(0, 0, MIN, 1, 0, true), UNKNOWN);
        Due.is("path unknown before life outside", x.sign(0, 0, 3, 0, 0, true), UNKNOWN);
        Due.is("kind -1", x.sign(0, -1, 0, 1, 0, true), OUTSIDE);
        Due.is("kind 4", x.sign(0, 4, 0, 1, 0, true), OUTSIDE);
        Due.is("kind 4 with a path elsewhere", x.sign(0, 4, 3, 1, 0, true), OUTSIDE);
        Due.is("stones -1", x.sign(0, 2, -1, 1, 0, true), OUTSIDE);
        Due.is("stones 10", x.sign(0, 2, 10, 1, 0, true), OUTSIDE);
        Due.is("paint -1", x.sign(0, 3, -1, 1, 0, true), OUTSIDE);
        Due.is("paint 6", x.sign(0, 3, 6, 1, 0, true), OUTSIDE);
        Due.is("life 0", x.sign(0, 0, 0, 0, 0, true), OUTSIDE);
        Due.is("life 61", x.sign(0, 0, 0, 61, 0, true), OUTSIDE);
        Due.is("seen by a path elsewhere", x.sign(0, 0, 0, 1, 8, true), OUTSIDE);
        Due.is("seen by no path", x.sign(0, 0, 0, 1, 16, true), OUTSIDE);
        Due.is("seen -1", x.sign(0, 0, 0, 1, -1, true), OUTSIDE);
        Due.is("seen bit 31", x.sign(0, 0, 0, 1, MIN, true), OUTSIDE);
        Due.is("seen bit 16", x.sign(0, 0, 0, 1, 1 << 16, false), OUTSIDE);
        Due.is("a place without paths", x.sign(9, 2, 0, 1, 1, true), OUTSIDE);
        Due.is("refused signs are none", x.count(1), 0);
    }

    private static void signsLaid() {
        TwigsAndStones x = Lands.star();
        Due.is("this way", x.sign(0, 0, 2, 60, 7, true), 0);
        Due.is("not this way", x.sign(0, 1, 1, 1, 0, false), 1);
        Due.is("stones 9", x.sign(1, 2, 9, 60, 9, false), 2);
        Due.is("stones 0 where no path is", x.sign(9, 2, 0, 1, 0, true), 3);
        Due.is("paint 0", x.sign(1, 3, 0, 1, 1, false), 4);
        Due.is("paint 5", x.sign(1, 3, 5, 1, 1, false), 5);
        Due.is("count signs", x.count(1), 6);
    }

    private static void fullSigns() {
        TwigsAndStones x = Lands.star();
        for (int i = 0; i < 24; i++) {
            Due.is("sign " + i, x.sign(0, 3, i % 6, 1, 7, true), i);
        }
        Due.is("a 25th sign", x.sign(0, 3, 0, 1, 7, true), FULL);
        Due.is("outside before full", x.sign(0, 3, 6, 1, 7, true), OUTSIDE);
        Due.is("unknown before full", x.sign(0, 0, 3, 1, 7, true), UNKNOWN);
        Due.is("all seen", x.seen(0, -1), (1 << 24) - 1);
        x.days(1);
        Due.is("none seen", x.seen(0, -1), 0);
        Due.is("gone ones keep their numbers", x.sign(0, 3, 0, 1, 7, true), FULL);
    }

    private static void turns() {
        TwigsAndStones x = Lands.star();
        x.sign(0, 0, 0, 2, 7, true);
        x.sign(0, 1, 0, 60, 7, true);
        x.sign(0, 2, 0, 60, 7, true);
        x.sign(0, 3, 0, 60, 7, true);
        Due.is("turn sign -1", x.turn(-1, 0), UNKNOWN);
        Due.is("turn sign 4", x.turn(4, 0), UNKNOWN);
        Due.is("turn to a path elsewhere", x.turn(0, 3), UNKNOWN);
        Due.is("turn to path -1", x.turn(0, -1), UNKNOWN);
        Due.is("turn to path 4", x.turn(0, 4), UNKNOWN);
        Due.is("turn stones to a path elsewhere", x.turn(2, 3), UNKNOWN);
        Due.is("turn to its path", x.turn(0, 0), NOT);
        for (int sign = 1; sign <= 3; sign++) {
            Due.is("turn what is no this way", x.turn(sign, 1), NOT);
        }
        Due.is("not turned", x.at(0, 5), 0);
        x.days(1);
        Due.is("turn", x.turn(0, 2), 0);
        Due.is("turned", x.at(0, 5), 1);
        Due.is("its path", x.at(0, 2), 2);
        Due.is("laid when it was laid", x.at(0, 4), 0);
        Due.is("its life", x.at(0, 3), 1);
        Due.is("turn back", x.turn(0, 0), 2);
        Due.is("it was turned", x.at(0, 5), 1);
        x.days(1);
        Due.is("turn a gone one", x.turn(0, 1), NOT);
        Due.is("its path stays", x.at(0, 2), 0);
        Due.is("turn a gone one to a path elsewhere", x.turn(0, 3), UNKNOWN);
    }

    private static void tellings() {
        TwigsAndStones x = Lands.star();
        x.days(7);
        x.sign(1, 3, 5, 33, 9, false);
        int[] due = {1, 3, 5, 33, 7, 0};
        for (int what = 0; what <= 5; what++) {
            Due.is("at(0, " + what + ")", x.at(0, what), due[what]);
        }
        Due.is("at(0, -1)", x.at(0, -1), OUTSIDE);
        Due.is("at(0, 6)", x.at(0, 6), OUTSIDE);
        Due.is("at(1, 0)", x.at(1, 0), UNKNOWN);
        Due.is("at(-1, 0)", x.at(-1, 0), UNKNOWN);
        Due.is("at unknown before outside", x.at(1, 6), UNKNOWN);
    }

    private static void settings() {
        TwigsAndStones x = new TwigsAndStones();
        int[] least = {0, 0, 1};
        int[] most = {9, 9, 40};
        int[] first = {0, 0, 12};
        for (int what = 0; what <= 2; what++) {
            Due.is("too little", x.set(what, least[what] - 1), OUTSIDE);
            Due.is("too much", x.set(what, most[what] + 1), OUTSIDE);
            Due.is("at first", x.set(what, most[what]), first[what]);
            Due.is("then", x.set(what, least[what]), most[what]);
            Due.is("and then", x.set(what, least[what]), least[what]);
        }
        Due.is("set(-1, 1)", x.set(-1, 1), OUTSIDE);
        Due.is("set(3, 1)", x.set(3, 1), OUTSIDE);
    }

    private static void sights() {
        TwigsAndStones x = Lands.star();
        x.sign(0, 0, 0, 1, 0, true);
        x.sign(0, 1, 1, 9, 1, false);
        x.sign(0, 2, 1, 9, 6, false);
        x.sign(0, 3, 1, 9, 7, true);
        x.sign(1, 3, 1, 9, 1, true);
        Due.is("seen by who begins", x.seen(0, -1), 9);
        Due.is("seen by path 0", x.seen(0, 0), 10);
        Due.is("seen by path 1", x.seen(0, 1), 12);
        Due.is("seen by path 2", x.seen(0, 2), 12);
        Due.is("seen elsewhere by path 0", x.seen(1, 0), 16);
        Due.is("seen elsewhere by path 3", x.seen(1, 3), 0);
        Due.is("seen where nothing is", x.seen(2, 3), 0);
        Due.is("seen by a path elsewhere", x.seen(0, 3), UNKNOWN);
        Due.is("seen by no path", x.seen(0, 4), UNKNOWN);
        Due.is("seen by path -2", x.seen(0, -2), UNKNOWN);
        Due.is("seen by path 32", x.seen(0, 32), UNKNOWN);
        Due.is("seen at place 10", x.seen(10, -1), UNKNOWN);
        Due.is("seen at place -1", x.seen(-1, -1), UNKNOWN);
        x.days(1);
        Due.is("a gone one is not seen", x.seen(0, -1), 8);
        x.path(0, 9, 1);
        Due.is("a path that came later sees none", x.seen(0, 4), 0);
    }

    private static void fog() {
        TwigsAndStones x = Lands.star();
        for (int kind = 0; kind <= 3; kind++) {
            x.sign(0, kind, 0, 60, 7, true);
        }
        int[] lengths = {2, 5, 9};
        for (int fog = 0; fog <= 9; fog++) {
            x.set(0, fog);
            for (int path = 0; path <= 2; path++) {
                int due = lengths[path] < fog ? 12 : 15;
                Due.is("seen by path " + path + " in fog " + fog, x.seen(0, path), due);
            }
            Due.is("seen by who begins in fog " + fog, x.seen(0, -1), 15);
        }
    }
}
