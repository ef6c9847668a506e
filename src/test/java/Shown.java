import java.util.ArrayList;
import java.util.List;
import java.util.function.Supplier;
import java.util.function.ToIntFunction;

/** All that an object shows: what it answers, asked of objects that are made anew, as each is good for 512 calls. */
final class Shown {
    private static final int AT_ONCE = 300;

    private record Question(String call, ToIntFunction<TwigsAndStones> ask) {
    }

    /** Questions that change nothing. */
    private static final List<Question> QUIET = new ArrayList<>();
    /** Rows of calls that change what there is, and by that show what else there was. */
    private static final List<List<Question>> LOUD = new ArrayList<>();

    static {
        askForCounts();
        askForSigns();
        askForWalks();
        askForRoutes();
        askForHounds();
        askForOwners();
        LOUD.add(whatWasSet());
        LOUD.add(whatComesNext());
        LOUD.add(howSignsWear());
        for (int from = 0; from < 24; from += 8) {
            LOUD.add(howSignsTurn(from));
        }
    }

    private Shown() {
    }

    private static void quiet(String call, ToIntFunction<TwigsAndStones> ask) {
        QUIET.add(new Question(call, ask));
    }

    private static void askForCounts() {
        for (int i = 0; i <= 7; i++) {
            int what = i;
            quiet("count(" + what + ")", x -> x.count(what));
        }
    }

    private static void askForSigns() {
        for (int i = 0; i < 24 * 6; i++) {
            int sign = i / 6;
            int what = i % 6;
            quiet("at(" + sign + ", " + what + ")", x -> x.at(sign, what));
        }
        for (int i = 0; i < 10 * 17; i++) {
            int place = i / 17;
            int path = i % 17 - 1;
            quiet("seen(" + place + ", " + path + ")", x -> x.seen(place, path));
        }
    }

    private static void askForWalks() {
        for (int i = 0; i < 10 * 9; i++) {
            int place = i / 9;
            int n = i % 9;
            if (n < 4) {
                quiet("walk(" + place + ", " + n + ")", x -> x.walk(place, n));
            }
            quiet("walked(" + place + ", " + n + ")", x -> x.walked(place, n));
            quiet("only(" + place + ", " + n + ")", x -> x.only(place, n));
            if (n == 0) {
                quiet("ways(" + place + ")", x -> x.ways(place));
            }
        }
    }

    private static void askForRoutes() {
        quiet("needed(0)", x -> x.needed(0));
        quiet("needed(1)", x -> x.needed(1));
        for (int i = 0; i < 6; i++) {
            int trail = i;
            quiet("breaks(" + trail + ")", x -> x.breaks(trail));
        }
    }

    private static void askForHounds() {
        for (int i = 1; i <= 3; i++) {
            int hounds = i;
            quiet("worst(" + hounds + ")", x -> x.worst(hounds));
            for (int j = 0; j < 10; j++) {
                int branch = j / 2;
                int what = j % 2;
                quiet("split(" + hounds + ", " + branch + ", " + what + ")", x -> x.split(hounds, branch, what));
            }
        }
    }

    private static void askForOwners() {
        int[] days = {0, 10, 29, 30, 199, 400};
        for (int i = 0; i < 16 * 6 * days.length * 2; i++) {
            int path = i % 16;
            int colour = i / 16 % 6;
            int day = days[i / 96 % days.length];
            int way = i / 96 / days.length;
            quiet("whose(" + path + ", " + colour + ", " + day + ", " + way + ")", x -> x.whose(path, colour, day, way));
        }
    }

    private static List<Question> whatWasSet() {
        List<Question> row = new ArrayList<>();
        row.add(new Question("weather(0)", x -> x.weather(0)));
        row.add(new Question("set(0, 0)", x -> x.set(0, 0)));
        row.add(new Question("set(1, 0)", x -> x.set(1, 0)));
        row.add(new Question("set(2, 1)", x -> x.set(2, 1)));
        for (int i = 0; i < 4; i++) {
            int club = i;
            row.add(new Question("club(" + club + ", 0)", x -> x.club(club, 0)));
        }
        row.add(new Question("forget()", x -> x.forget()));
        row.add(new Question("unroute()", x -> x.unroute()));
        row.add(new Question("unbranch()", x -> x.unbranch()));
        return row;
    }

    private static List<Question> whatComesNext() {
        List<Question> row = new ArrayList<>();
        row.add(new Question("sign", x -> x.sign(0, 2, 1, 9, 0, true)));
        row.add(new Question("note", x -> x.note(3)));
        row.add(new Question("branch", x -> x.branch(2)));
        row.add(new Question("colour", x -> x.colour(3, 1, 7)));
        for (int i = 0; i < 10; i++) {
            int place = i;
            row.add(new Question("route " + place, x -> x.route(place)));
            for (int j = 0; j < 6; j++) {
                int trail = j;
                row.add(new Question("add to " + trail + " " + place, x -> x.add(trail, place)));
            }
        }
        row.add(new Question("trail", x -> x.trail(7, true)));
        for (int i = 0; i < 100; i++) {
            int a = i / 10;
            int b = i % 10;
            row.add(new Question("path " + a + " " + b, x -> x.path(a, b, 3)));
        }
        row.add(new Question("worst of those then", x -> x.worst(2)));
        return row;
    }

    private static List<Question> howSignsWear() {
        List<Question> row = new ArrayList<>();
        for (int days = 0; days < 6; days++) {
            row.add(new Question("days(1)", x -> x.days(1)));
            for (int i = 0; i < 24; i++) {
                int sign = i;
                row.add(new Question("life of " + sign, x -> x.at(sign, 3)));
            }
        }
        return row;
    }

    private static List<Question> howSignsTurn(int from) {
        List<Question> row = new ArrayList<>();
        for (int i = 0; i < 8 * 16; i++) {
            int sign = from + i / 16;
            int path = i % 16;
            row.add(new Question("turn(" + sign + ", " + path + ")", x -> x.turn(sign, path)));
        }
        return row;
    }

    private static void ask(List<Question> row, Supplier<TwigsAndStones> made, List<Integer> answers) {
        TwigsAndStones x = made.get();
        for (Question q : row) {
            answers.add(q.ask().applyAsInt(x));
        }
    }

    /** The answers of objects made so to all questions. */
    static List<Integer> by(Supplier<TwigsAndStones> made) {
        List<Integer> answers = new ArrayList<>();
        for (int i = 0; i < QUIET.size(); i += AT_ONCE) {
            ask(QUIET.subList(i, Math.min(QUIET.size(), i + AT_ONCE)), made, answers);
        }
        for (List<Question> row : LOUD) {
            ask(row, made, answers);
        }
        return answers;
    }

    private static String callOf(int n) {
        if (n < QUIET.size()) {
            return QUIET.get(n).call();
        }
        int left = n - QUIET.size();
        for (List<Question> row : LOUD) {
            if (left < row.size()) {
                return row.get(left).call() + " in a row of calls";
            }
            left -= row.size();
        }
        return "a call";
    }

    /** Due is that both show the same. */
    static void dueAlike(String what, List<Integer> got, List<Integer> want) {
        Due.is(what + ": answers", got.size(), want.size());
        for (int n = 0; n < Math.min(got.size(), want.size()); n++) {
            if (!got.get(n).equals(want.get(n))) {
                Due.is(what + ", then " + callOf(n), got.get(n), want.get(n));
                return;
            }
        }
    }
}
