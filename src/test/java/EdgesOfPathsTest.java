/** Promises 1 to 4 (a new object, path, weather, days): one test for each sentence that names a boundary case. */
public final class EdgesOfPathsTest {
    private static final int UNKNOWN = -2, OUTSIDE = -3, NOT = -4, FULL = -5;
    private static final int NOT_THIS_WAY = 1, STONES = 2, PAINT = 3;

    public static void main(String[] args) {
        Due.runAll(EdgesOfPathsTest.class);
    }

    // ---- promise 1

    /** "No PATHS". */
    static void newHasNoPaths() {
        TwigsAndStones x = new TwigsAndStones();
        Due.is("count(0)", x.count(0), 0);
        for (int path = 0; path < 16; path++) {
            Due.is("seen(0, " + path + ")", x.seen(0, path), UNKNOWN);
            Due.is("whose(" + path + ")", x.whose(path, 0, 0, 0), UNKNOWN);
            Due.is("club with path " + path, x.club(0, 1 << path), OUTSIDE);
        }
        Due.is("the first one's number", x.path(0, 1, 1), 0);
    }

    /** "no SIGNS". */
    static void newHasNoSigns() {
        TwigsAndStones x = new TwigsAndStones();
        Due.is("count(1)", x.count(1), 0);
        Due.is("count(2)", x.count(2), 0);
        for (int sign = 0; sign < 24; sign++) {
            Due.is("at(" + sign + ", 0)", x.at(sign, 0), UNKNOWN);
            Due.is("turn(" + sign + ", 0)", x.turn(sign, 0), UNKNOWN);
        }
        for (int place = 0; place < 10; place++) {
            Due.is("seen(" + place + ", -1)", x.seen(place, -1), 0);
        }
        Due.is("the first one's number", x.sign(0, STONES, 1, 1, 0, true), 0);
    }

    /** "day 0". */
    static void newIsOnDayZero() {
        TwigsAndStones x = new TwigsAndStones();
        Due.is("count(3)", x.count(3), 0);
        x.sign(0, STONES, 1, 1, 0, true);
        Due.is("the day on which a sign was laid", x.at(0, 4), 0);
        Due.is("days(1)", x.days(1), 1);
    }

    /** Nothing else is told to a new object either. */
    static void newHasNothingElse() {
        TwigsAndStones x = new TwigsAndStones();
        for (int what = 4; what <= 7; what++) {
            Due.is("count(" + what + ")", x.count(what), 0);
        }
        Due.is("breaks(0)", x.breaks(0), UNKNOWN);
        Due.is("split(1, 0, 0)", x.split(1, 0, 0), UNKNOWN);
        Due.is("the first colour told", x.colour(0, 0, 0), 1);
        for (int club = 0; club < 4; club++) {
            Due.is("paths of club " + club, x.club(club, 0), 0);
        }
    }

    /** What is told to one object is not told to another. */
    static void newOwesNothingToOthers() {
        Lands.full();
        TwigsAndStones x = new TwigsAndStones();
        TwigsAndStones y = new TwigsAndStones();
        Lands.ordinary();
        y.path(3, 4, 1);
        y.days(9);
        Shown.dueAlike("beside others", Shown.by(() -> {
            TwigsAndStones first = Lands.empty();
            Lands.full();
            return first;
        }), Shown.by(Lands::empty));
        Due.is("no path of x", x.count(0), 0);
        Due.is("no day of x", x.count(3), 0);
        Due.is("a path of y", y.count(0), 1);
    }

    /** "An object is used for at most 512 calls": the last of them is answered as the first. */
    static void answersTillCall512() {
        TwigsAndStones x = new TwigsAndStones();
        Due.is("call 1", x.path(0, 1, 9), 0);
        Due.is("call 2", x.sign(1, STONES, 3, 60, 1, false), 0);
        for (int call = 3; call <= 510; call++) {
            Due.is("call " + call, call % 2 == 0 ? x.walk(0, 3) : x.path(1, 0, 9), call % 2 == 0 ? 9 : NOT);
        }
        Due.is("call 511", x.seen(1, 0), 1);
        Due.is("call 512", x.path(1, 2, 1), 1);
    }

    // ---- promise 2

    /** "PLACES are 0 .. 9"; "UNKNOWN". */
    static void pathTakesPlacesZeroToNine() {
        Due.takesOnly("path from a place", 0, 9, UNKNOWN, a -> new TwigsAndStones().path(a, a == 5 ? 6 : 5, 1));
        Due.takesOnly("path to a place", 0, 9, UNKNOWN, b -> new TwigsAndStones().path(b == 5 ? 6 : 5, b, 1));
    }

    /** "PATHS are numbered from 0". */
    static void pathsAreNumberedFromZero() {
        TwigsAndStones x = new TwigsAndStones();
        Due.is("first", x.path(9, 8, 1), 0);
        Due.is("second", x.path(0, 9, 9), 1);
        Due.is("a refused one", x.path(0, 9, 9), NOT);
        Due.is("third", x.path(4, 5, 3), 2);
        Due.is("count(0)", x.count(0), 3);
    }

    /** "16 at most"; "FULL". */
    static void pathsAreSixteenAtMost() {
        TwigsAndStones x = new TwigsAndStones();
        for (int b = 1; b <= 9; b++) {
            Due.is("path 0 to " + b, x.path(0, b, b), b - 1);
        }
        for (int b = 2; b <= 8; b++) {
            Due.is("path 1 to " + b, x.path(1, b, 1), 7 + b);
        }
        Due.is("the seventeenth", x.path(1, 9, 1), FULL);
        Due.is("and again", x.path(8, 9, 9), FULL);
        Due.is("count(0)", x.count(0), 16);
        Due.is("the sixteenth is there", x.seen(8, 15), 0);
        Due.is("the seventeenth is not", x.seen(9, 16), UNKNOWN);
    }

    /** "each between two unlike PLACES"; "OUTSIDE: a PLACE and itself". */
    static void pathJoinsUnlikePlaces() {
        for (int place = 0; place <= 9; place++) {
            TwigsAndStones x = new TwigsAndStones();
            Due.is("path from " + place + " to itself", x.path(place, place, 1), OUTSIDE);
            Due.is("count(0)", x.count(0), 0);
        }
    }

    /** "of two PLACES one at most"; "NOT: there is one between both". */
    static void pathIsOneOfTwoPlaces() {
        TwigsAndStones x = Lands.row();
        for (int a = 0; a < 9; a++) {
            Due.is("again", x.path(a, a + 1, 2), NOT);
            Due.is("again, the other way, as long as none", x.path(a + 1, a, 9), NOT);
        }
        Due.is("count(0)", x.count(0), 9);
        Due.is("from one of them elsewhere", x.path(0, 2, 2), 9);
        Due.is("then this is there, too", x.path(2, 0, 2), NOT);
    }

    /** "1 .. 9 LONG"; "OUTSIDE: .. long". */
    static void pathIsOneToNineLong() {
        Due.takesOnly("path of a length", 1, 9, OUTSIDE, length -> new TwigsAndStones().path(2, 7, length));
        for (int length = 1; length <= 9; length++) {
            TwigsAndStones x = new TwigsAndStones();
            x.path(2, 7, length);
            Due.is("how long it is", x.walk(7, 3), length);
        }
    }

    // ---- promise 3

    /** "each day has a WEATHER 0 .. 2"; "OUTSIDE". */
    static void weatherIsZeroToTwo() {
        Due.takesOnly("weather", 0, 2, OUTSIDE, v -> new TwigsAndStones().weather(v));
    }

    /** "(0 at first)". */
    static void weatherIsZeroAtFirst() {
        Due.is("weather(2)", new TwigsAndStones().weather(2), 0);
        TwigsAndStones x = new TwigsAndStones();
        x.sign(0, PAINT, 1, 9, 0, true);
        x.days(1);
        Due.is("a sign loses 1", x.at(0, 3), 8);
    }

    /** "that which it was". */
    static void weatherAnswersWhatItWas() {
        TwigsAndStones x = new TwigsAndStones();
        int was = 0;
        for (int v : new int[] {1, 1, 2, 0, 2, 2, 1, 0, 0}) {
            Due.is("weather(" + v + ")", x.weather(v), was);
            was = v;
        }
        x.weather(2);
        Due.is("refused", x.weather(3), OUTSIDE);
        Due.is("it stays", x.weather(0), 2);
    }

    /** "WEATHER of THE DAY and those that come". */
    static void weatherStaysForDaysThatCome() {
        TwigsAndStones x = new TwigsAndStones();
        x.weather(1);
        x.days(30);
        x.days(1);
        x.sign(0, PAINT, 1, 60, 0, true);
        x.days(1);
        Due.is("life", x.at(0, 3), 58);
        x.weather(2);
        Due.is("days gone by are not worn again", x.at(0, 3), 58);
        x.days(2);
        Due.is("life then", x.at(0, 3), 50);
        Due.is("the weather stays", x.weather(0), 2);
    }

    // ---- promise 4

    /** "n DAYS (1 .. 30) go by"; "OUTSIDE". */
    static void daysAreOneToThirty() {
        Due.takesOnly("days", 1, 30, OUTSIDE, n -> new TwigsAndStones().days(n));
        for (int n = 1; n <= 30; n++) {
            Due.is("days(" + n + ")", Lands.onDay(new TwigsAndStones(), 3).days(n), 3 + n);
        }
    }

    /** "THE DAY is .. 400 at most"; "OUTSIDE: also beyond 400". */
    static void daysGoTo400AtMost() {
        for (int day = 365; day <= 400; day++) {
            int from = day;
            for (int n = 1; n <= 30; n++) {
                TwigsAndStones x = Lands.onDay(new TwigsAndStones(), from);
                int due = from + n <= 400 ? from + n : OUTSIDE;
                Due.is("days(" + n + ") on day " + from, x.days(n), due);
                Due.is("the day behind it", x.count(3), due == OUTSIDE ? from : due);
            }
        }
    }

    /** A number of days that is too great for a sum, too. */
    static void daysBeyondAllNumbersAreRefused() {
        TwigsAndStones x = Lands.onDay(new TwigsAndStones(), 400);
        Due.is("days(MAX)", x.days(Integer.MAX_VALUE), OUTSIDE);
        Due.is("days(MAX - 399)", x.days(Integer.MAX_VALUE - 399), OUTSIDE);
        Due.is("days(MIN)", x.days(Integer.MIN_VALUE), OUTSIDE);
        Due.is("days(-400)", x.days(-400), OUTSIDE);
        Due.is("the day", x.count(3), 400);
    }

    /** "each SIGN loses of its LIFE 1, 2, 4 by the WEATHER". */
    static void signsLoseByTheWeather() {
        for (int weather = 0; weather <= 2; weather++) {
            for (int kind : new int[] {0, NOT_THIS_WAY, PAINT}) {
                TwigsAndStones x = Lands.star();
                x.weather(weather);
                x.sign(0, kind, 0, 60, 0, true);
                for (int day = 1; day <= 14; day++) {
                    x.days(1);
                    Due.is("life of kind " + kind + " in " + weather, x.at(0, 3), 60 - day * new int[] {1, 2, 4}[weather]);
                }
            }
        }
    }

    /** "STONES 1 always". */
    static void stonesLoseOneAlways() {
        for (int weather = 0; weather <= 2; weather++) {
            for (int number = 0; number <= 9; number += 9) {
                TwigsAndStones x = Lands.star();
                x.weather(weather);
                x.sign(0, STONES, number, 60, 0, true);
                x.days(1);
                Due.is("a day in " + weather, x.at(0, 3), 59);
                x.days(30);
                Due.is("31 days", x.at(0, 3), 29);
                x.days(28);
                Due.is("not gone", x.count(2), 1);
                x.days(1);
                Due.is("gone after 60", x.count(2), 0);
            }
        }
    }

    /** "as a DAY goes by": many at once wear as much as one by one. */
    static void daysAtOnceWearAsDaysOneByOne() {
        TwigsAndStones x = Lands.ordinary();
        TwigsAndStones y = Lands.ordinary();
        x.days(7);
        for (int i = 0; i < 7; i++) {
            y.days(1);
        }
        for (int sign = 0; sign < 6; sign++) {
            Due.is("life of " + sign, x.at(sign, 3), y.at(sign, 3));
        }
    }

    /** "One is GONE with LIFE 0": not with 1, and there is no life below. */
    static void signIsGoneWithLifeZero() {
        int[] losses = {1, 2, 4};
        for (int weather = 0; weather <= 2; weather++) {
            for (int left = -1; left <= 1; left++) {
                TwigsAndStones x = Lands.star();
                x.weather(weather);
                x.sign(0, PAINT, 5, 5 * losses[weather] + left, 0, true);
                x.days(5);
                Due.is("life in weather " + weather, x.at(0, 3), Math.max(0, left));
                Due.is("those not gone", x.count(2), left > 0 ? 1 : 0);
                Due.is("it is seen", x.seen(0, -1), left > 0 ? 1 : 0);
                Due.is("it is a sign", x.count(1), 1);
                x.days(30);
                Due.is("no life below 0", x.at(0, 3), 0);
            }
        }
    }
}
