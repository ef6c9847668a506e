import java.util.List;
import java.util.function.Supplier;
import java.util.function.ToIntFunction;

/** "Refused, and nothing changes": behind each refused call an object shows all that it showed without it. */
public final class RefusedCallsTest {
    private static final int NONE = -1, UNKNOWN = -2, OUTSIDE = -3, NOT = -4, FULL = -5;

    /** The object before the call is made so, and has shown this. */
    private static Supplier<TwigsAndStones> made;
    private static List<Integer> shown;

    public static void main(String[] args) {
        Due.runAll(RefusedCallsTest.class);
    }

    private static void from(Supplier<TwigsAndStones> state) {
        made = state;
        shown = Shown.by(state);
    }

    private static void refused(String call, int due, ToIntFunction<TwigsAndStones> ask) {
        Due.is(call, ask.applyAsInt(made.get()), due);
        Supplier<TwigsAndStones> before = made;
        Shown.dueAlike("behind " + call, Shown.by(() -> {
            TwigsAndStones x = before.get();
            ask.applyAsInt(x);
            return x;
        }), shown);
    }

    // ---- an object with some of all

    static void someOfAllShowsWhatThereIs() {
        List<Integer> some = Shown.by(Lands::ordinary);
        Due.holds("an ordinary object and a new one differ", !some.equals(Shown.by(Lands::empty)));
        Due.holds("an ordinary object and a full one differ", !some.equals(Shown.by(Lands::full)));
        Shown.dueAlike("one made as another", Shown.by(Lands::ordinary), some);
    }

    static void pathChangesNothing() {
        from(Lands::ordinary);
        refused("path(-1, 9, 1)", UNKNOWN, x -> x.path(-1, 9, 1));
        refused("path(9, 10, 1)", UNKNOWN, x -> x.path(9, 10, 1));
        refused("path(5, 5, 1)", OUTSIDE, x -> x.path(5, 5, 1));
        refused("path(0, 9, 0)", OUTSIDE, x -> x.path(0, 9, 0));
        refused("path(0, 9, 10)", OUTSIDE, x -> x.path(0, 9, 10));
        refused("path(0, 1, 7)", NOT, x -> x.path(0, 1, 7));
        refused("path(1, 0, 7)", NOT, x -> x.path(1, 0, 7));
    }

    static void weatherChangesNothing() {
        from(Lands::ordinary);
        refused("weather(-1)", OUTSIDE, x -> x.weather(-1));
        refused("weather(3)", OUTSIDE, x -> x.weather(3));
    }

    static void daysChangesNothing() {
        from(Lands::ordinary);
        refused("days(0)", OUTSIDE, x -> x.days(0));
        refused("days(-1)", OUTSIDE, x -> x.days(-1));
        refused("days(31)", OUTSIDE, x -> x.days(31));
        refused("days(MAX)", OUTSIDE, x -> x.days(Integer.MAX_VALUE));
    }

    static void signChangesNothing() {
        from(Lands::ordinary);
        refused("sign at -1", UNKNOWN, x -> x.sign(-1, 2, 1, 9, 0, true));
        refused("sign at 10", UNKNOWN, x -> x.sign(10, 2, 1, 9, 0, true));
        refused("this way of a path elsewhere", UNKNOWN, x -> x.sign(0, 0, 3, 9, 0, true));
        refused("not this way of no path", UNKNOWN, x -> x.sign(0, 1, 7, 9, 0, true));
        refused("kind -1", OUTSIDE, x -> x.sign(0, -1, 0, 9, 0, true));
        refused("kind 4", OUTSIDE, x -> x.sign(0, 4, 0, 9, 0, true));
        refused("stones -1", OUTSIDE, x -> x.sign(0, 2, -1, 9, 0, true));
        refused("stones 10", OUTSIDE, x -> x.sign(0, 2, 10, 9, 0, true));
        refused("paint -1", OUTSIDE, x -> x.sign(0, 3, -1, 9, 0, true));
        refused("paint 6", OUTSIDE, x -> x.sign(0, 3, 6, 9, 0, true));
        refused("life 0", OUTSIDE, x -> x.sign(0, 0, 0, 0, 0, true));
        refused("life 61", OUTSIDE, x -> x.sign(0, 0, 0, 61, 0, true));
        refused("seen by a path elsewhere", OUTSIDE, x -> x.sign(0, 0, 0, 9, 15, true));
        refused("seen -1", OUTSIDE, x -> x.sign(0, 0, 0, 9, -1, true));
    }

    static void turnChangesNothing() {
        from(Lands::ordinary);
        refused("turn(-1, 0)", UNKNOWN, x -> x.turn(-1, 0));
        refused("turn(6, 0)", UNKNOWN, x -> x.turn(6, 0));
        refused("turn(0, 1), elsewhere", UNKNOWN, x -> x.turn(0, 1));
        refused("turn(0, 7), nowhere", UNKNOWN, x -> x.turn(0, 7));
        refused("turn(1, 0), not this way", NOT, x -> x.turn(1, 0));
        refused("turn(2, 1), stones", NOT, x -> x.turn(2, 1));
        refused("turn(3, 2), paint", NOT, x -> x.turn(3, 2));
        refused("turn(4, 0), gone", NOT, x -> x.turn(4, 0));
        refused("turn(0, 3), of that path", NOT, x -> x.turn(0, 3));
        refused("turn(5, 4), of that path since it was turned", NOT, x -> x.turn(5, 4));
    }

    static void setChangesNothing() {
        from(Lands::ordinary);
        for (int what = 0; what <= 2; what++) {
            int w = what;
            refused("too little of " + w, OUTSIDE, x -> x.set(w, w == 2 ? 0 : -1));
            refused("too much of " + w, OUTSIDE, x -> x.set(w, w == 2 ? 41 : 10));
        }
        refused("set(-1, 5)", OUTSIDE, x -> x.set(-1, 5));
        refused("set(3, 5)", OUTSIDE, x -> x.set(3, 5));
    }

    static void noteChangesNothing() {
        from(Lands::ordinary);
        refused("note(-2)", OUTSIDE, x -> x.note(-2));
        refused("note(16)", OUTSIDE, x -> x.note(16));
    }

    static void routeChangesNothing() {
        from(Lands::ordinary);
        refused("route(-1)", UNKNOWN, x -> x.route(-1));
        refused("route(10)", UNKNOWN, x -> x.route(10));
        refused("route(2), in it", NOT, x -> x.route(2));
        refused("route(6), the last", NOT, x -> x.route(6));
        refused("route(9), not joined", NOT, x -> x.route(9));
    }

    static void trailsChangeNothing() {
        from(Lands::ordinary);
        refused("trail(-1, true)", UNKNOWN, x -> x.trail(-1, true));
        refused("trail(10, false)", UNKNOWN, x -> x.trail(10, false));
        refused("add(-1, 2)", UNKNOWN, x -> x.add(-1, 2));
        refused("add(3, 2)", UNKNOWN, x -> x.add(3, 2));
        refused("add(0, -1)", UNKNOWN, x -> x.add(0, -1));
        refused("add(0, 10)", UNKNOWN, x -> x.add(0, 10));
        refused("add(0, 0), in it", NOT, x -> x.add(0, 0));
        refused("add(0, 1), the last", NOT, x -> x.add(0, 1));
        refused("add(0, 9), not joined", NOT, x -> x.add(0, 9));
    }

    static void branchChangesNothing() {
        from(Lands::ordinary);
        refused("branch(0)", OUTSIDE, x -> x.branch(0));
        refused("branch(21)", OUTSIDE, x -> x.branch(21));
    }

    static void clubsChangeNothing() {
        from(Lands::ordinary);
        refused("club(-1, 1)", UNKNOWN, x -> x.club(-1, 1));
        refused("club(4, 1)", UNKNOWN, x -> x.club(4, 1));
        refused("club(0, 128)", OUTSIDE, x -> x.club(0, 128));
        refused("club(0, -1)", OUTSIDE, x -> x.club(0, -1));
        refused("colour(-1, 1, 1)", UNKNOWN, x -> x.colour(-1, 1, 1));
        refused("colour(4, 1, 1)", UNKNOWN, x -> x.colour(4, 1, 1));
        refused("colour(0, -1, 1)", OUTSIDE, x -> x.colour(0, -1, 1));
        refused("colour(0, 6, 1)", OUTSIDE, x -> x.colour(0, 6, 1));
        refused("colour(0, 1, -1)", OUTSIDE, x -> x.colour(0, 1, -1));
        refused("colour(0, 1, 401)", OUTSIDE, x -> x.colour(0, 1, 401));
    }

    /** Calls that ask only, refused: an asked walk, way or split is not changed by them either. */
    static void refusedQuestionsChangeNothing() {
        from(Lands::ordinary);
        refused("at(-1, 0)", UNKNOWN, x -> x.at(-1, 0));
        refused("at(6, 0)", UNKNOWN, x -> x.at(6, 0));
        refused("at(0, 6)", OUTSIDE, x -> x.at(0, 6));
        refused("seen(10, -1)", UNKNOWN, x -> x.seen(10, -1));
        refused("seen(0, 3)", UNKNOWN, x -> x.seen(0, 3));
        refused("walk(10, 0)", UNKNOWN, x -> x.walk(10, 0));
        refused("walk(0, 4)", OUTSIDE, x -> x.walk(0, 4));
        refused("walked(10, 0)", UNKNOWN, x -> x.walked(10, 0));
        refused("walked(0, -1)", OUTSIDE, x -> x.walked(0, -1));
        refused("ways(10)", UNKNOWN, x -> x.ways(10));
        refused("only(10, 0)", UNKNOWN, x -> x.only(10, 0));
        refused("only(0, -1)", OUTSIDE, x -> x.only(0, -1));
        refused("needed(2)", OUTSIDE, x -> x.needed(2));
        refused("breaks(3)", UNKNOWN, x -> x.breaks(3));
        refused("worst(0)", OUTSIDE, x -> x.worst(0));
        refused("worst(4)", OUTSIDE, x -> x.worst(4));
        refused("split(1, 3, 0)", UNKNOWN, x -> x.split(1, 3, 0));
        refused("split(0, 0, 0)", OUTSIDE, x -> x.split(0, 0, 0));
        refused("split(1, 0, 2)", OUTSIDE, x -> x.split(1, 0, 2));
        refused("whose(7, 0, 0, 0)", UNKNOWN, x -> x.whose(7, 0, 0, 0));
        refused("whose(0, 6, 0, 0)", OUTSIDE, x -> x.whose(0, 6, 0, 0));
        refused("whose(0, 0, 401, 0)", OUTSIDE, x -> x.whose(0, 0, 401, 0));
        refused("whose(0, 0, 0, 2)", OUTSIDE, x -> x.whose(0, 0, 0, 2));
        refused("count(-1)", OUTSIDE, x -> x.count(-1));
        refused("count(8)", OUTSIDE, x -> x.count(8));
    }

    /** Calls that ask only, answered: they change nothing of what is asked behind them. */
    static void questionsChangeNothing() {
        from(Lands::ordinary);
        refused("walk(1, 2)", 1, x -> x.walk(1, 2));
        refused("walked(0, 40)", NONE, x -> x.walked(0, 40));
        refused("ways(0)", 1, x -> x.ways(0));
        refused("only(0, 1)", 2, x -> x.only(0, 1));
        refused("needed(0)", 13, x -> x.needed(0));
        refused("breaks(1)", 8, x -> x.breaks(1));
        refused("worst(1)", 21, x -> x.worst(1));
        refused("split(3, 2, 0)", 0, x -> x.split(3, 2, 0));
        refused("whose(0, 2, 30, 1)", 1, x -> x.whose(0, 2, 30, 1));
        refused("count(2)", 5, x -> x.count(2));
        refused("at(5, 2)", 4, x -> x.at(5, 2));
        refused("seen(1, -1)", 1, x -> x.seen(1, -1));
    }

    // ---- a full object

    static void fullObjectTakesNoMore() {
        from(Lands::full);
        refused("path(0, 9, 1)", FULL, x -> x.path(0, 9, 1));
        refused("path(0, 1, 1)", NOT, x -> x.path(0, 1, 1));
        refused("sign", FULL, x -> x.sign(9, 2, 0, 60, 0, true));
        refused("days(1)", OUTSIDE, x -> x.days(1));
        refused("note(0)", FULL, x -> x.note(0));
        refused("route(0)", NOT, x -> x.route(0));
        refused("trail(9, true)", FULL, x -> x.trail(9, true));
        refused("add(0, 6)", FULL, x -> x.add(0, 6));
        refused("add(0, 0)", NOT, x -> x.add(0, 0));
        refused("branch(1)", FULL, x -> x.branch(1));
        refused("colour(0, 0, 0)", FULL, x -> x.colour(0, 0, 0));
        refused("club(0, 65536)", OUTSIDE, x -> x.club(0, 65536));
    }

    /** The day before the last: two days are too many, and not one of them goes by. */
    static void daysBeyondTheLastGoByInNoPart() {
        from(() -> {
            TwigsAndStones x = Lands.onDay(Lands.star(), 399);
            x.sign(0, 2, 1, 9, 0, true);
            x.sign(0, 3, 1, 1, 0, true);
            return x;
        });
        refused("days(2)", OUTSIDE, x -> x.days(2));
        refused("days(30)", OUTSIDE, x -> x.days(30));
    }

    // ---- an object with nothing

    static void emptyObjectStaysEmpty() {
        from(Lands::empty);
        refused("path(0, 0, 1)", OUTSIDE, x -> x.path(0, 0, 1));
        refused("path(0, 10, 1)", UNKNOWN, x -> x.path(0, 10, 1));
        refused("sign of no path", UNKNOWN, x -> x.sign(0, 0, 0, 9, 0, true));
        refused("sign seen by no path", OUTSIDE, x -> x.sign(0, 2, 0, 9, 1, true));
        refused("turn(0, 0)", UNKNOWN, x -> x.turn(0, 0));
        refused("at(0, 0)", UNKNOWN, x -> x.at(0, 0));
        refused("seen(0, 0)", UNKNOWN, x -> x.seen(0, 0));
        refused("add(0, 0)", UNKNOWN, x -> x.add(0, 0));
        refused("breaks(0)", UNKNOWN, x -> x.breaks(0));
        refused("split(1, 0, 0)", UNKNOWN, x -> x.split(1, 0, 0));
        refused("club(0, 1)", OUTSIDE, x -> x.club(0, 1));
        refused("whose(0, 0, 0, 0)", UNKNOWN, x -> x.whose(0, 0, 0, 0));
        refused("forget() of none", 0, x -> x.forget());
        refused("unroute() of none", 0, x -> x.unroute());
        refused("unbranch() of none", 0, x -> x.unbranch());
    }

    /** Behind one refused call after the other, too. */
    static void manyRefusedCallsChangeNothing() {
        from(Lands::ordinary);
        refused("a row of refused calls", OUTSIDE, x -> {
            x.path(0, 1, 7);
            x.sign(0, 0, 3, 9, 0, true);
            x.sign(0, 0, 0, 61, 0, true);
            x.turn(4, 0);
            x.set(0, 10);
            x.note(16);
            x.route(9);
            x.trail(10, true);
            x.add(0, 9);
            x.branch(21);
            x.club(0, -1);
            x.colour(0, 6, 0);
            x.days(31);
            return x.weather(3);
        });
    }
}
