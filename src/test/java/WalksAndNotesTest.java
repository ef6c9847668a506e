/** Promises 10 to 15: walk, walked, note, forget, ways, only. */
public final class WalksAndNotesTest {
    private static final int NONE = -1, UNKNOWN = -2, OUTSIDE = -3, FULL = -5;
    private static final int LOSS = 0, END = 1, CAMP = 2, AROUND = 3;
    private static final int MIN = Integer.MIN_VALUE, MAX = Integer.MAX_VALUE;

    public static void main(String[] args) {
        walkRefused();
        byThisWay();
        byWhatIsNotBarred();
        camps();
        around();
        notesTaken();
        waysByNotes();
        waysBack();
        waysInFogAndAge();
        manyWays();
        Due.end();
    }

    /** Place 0 joined to 1, 2, 3 by the paths 0 (2 long), 1 (5 long), 2 (9 long). */
    private static TwigsAndStones star() {
        TwigsAndStones x = new TwigsAndStones();
        x.path(0, 1, 2);
        x.path(0, 2, 5);
        x.path(3, 0, 9);
        return x;
    }

    private static void dueWalk(String what, TwigsAndStones x, int place, int ending, int where, int paths, int length) {
        Due.is(what + ": ends", x.walk(place, 0), ending);
        Due.is(what + ": where", x.walk(place, 1), where);
        Due.is(what + ": paths", x.walk(place, 2), paths);
        Due.is(what + ": long", x.walk(place, 3), length);
        Due.is(what + ": begins", x.walked(place, 0), place);
        Due.is(what + ": last place", x.walked(place, paths), where);
        Due.is(what + ": no place more", x.walked(place, paths + 1), NONE);
    }

    private static void walkRefused() {
        TwigsAndStones x = star();
        Due.is("walk(-1, 0)", x.walk(-1, 0), UNKNOWN);
        Due.is("walk(10, 0)", x.walk(10, 0), UNKNOWN);
        Due.is("walk(10, 4)", x.walk(10, 4), UNKNOWN);
        Due.is("walk(0, -1)", x.walk(0, -1), OUTSIDE);
        Due.is("walk(0, 4)", x.walk(0, 4), OUTSIDE);
        Due.is("walked(-1, 0)", x.walked(-1, 0), UNKNOWN);
        Due.is("walked(10, -1)", x.walked(10, -1), UNKNOWN);
        Due.is("walked(0, -1)", x.walked(0, -1), OUTSIDE);
        Due.is("walked(0, MIN)", x.walked(0, MIN), OUTSIDE);
        Due.is("walked(0, MAX)", x.walked(0, MAX), NONE);
    }

    private static void byThisWay() {
        TwigsAndStones x = star();
        dueWalk("a place without paths", x, 9, END, 9, 0, 0);
        dueWalk("nothing seen", x, 0, LOSS, 0, 0, 0);
        dueWalk("from an end", x, 1, LOSS, 0, 1, 2);
        x.sign(0, 0, 1, 5, 1, false);
        dueWalk("by a sign", x, 1, END, 2, 2, 7);
        dueWalk("not seen by who begins", x, 0, LOSS, 0, 0, 0);
        dueWalk("not seen from there", x, 3, LOSS, 0, 1, 9);
        x.sign(0, 0, 2, 3, 7, true);
        dueWalk("by the latest sign", x, 1, END, 3, 2, 11);
        dueWalk("by a sign, begun", x, 0, END, 3, 1, 9);
        Due.is("turn the older sign", x.turn(0, 0), 1);
        dueWalk("the turned one is not later", x, 1, END, 3, 2, 11);
        x.days(3);
        dueWalk("the latest is gone; back by the path by which it came", x, 1, END, 1, 2, 4);
        x.sign(0, 1, 0, 9, 1, false);
        dueWalk("this way is ahead of not this way", x, 1, END, 1, 2, 4);
        x.days(2);
        dueWalk("all are gone but not this way of the path by which it came", x, 1, LOSS, 0, 1, 2);
    }

    private static void byWhatIsNotBarred() {
        TwigsAndStones x = star();
        x.sign(0, 1, 1, 5, 1, true);
        dueWalk("one of two is barred", x, 1, END, 3, 2, 11);
        dueWalk("one of three is barred", x, 0, LOSS, 0, 0, 0);
        x.sign(0, 1, 2, 9, 1, true);
        dueWalk("both are barred", x, 1, LOSS, 0, 1, 2);
        dueWalk("two of three are barred", x, 0, END, 1, 1, 2);
        x.sign(0, 1, 0, 9, 0, true);
        dueWalk("three of three are barred", x, 0, LOSS, 0, 0, 0);
        x.sign(1, 1, 0, 9, 0, true);
        dueWalk("the only one is barred", x, 1, LOSS, 1, 0, 0);
        x.days(5);
        dueWalk("a gone one bars no more", x, 0, END, 2, 1, 5);
        TwigsAndStones y = star();
        y.sign(0, 1, 0, 9, 1, false);
        dueWalk("barring the path by which it came tells nothing", y, 1, LOSS, 0, 1, 2);
        TwigsAndStones z = new TwigsAndStones();
        z.path(0, 1, 3);
        z.path(1, 2, 4);
        z.path(2, 3, 5);
        dueWalk("no choice", z, 0, END, 3, 3, 12);
        dueWalk("begun between", z, 1, LOSS, 1, 0, 0);
        Due.is("walked(3, 1)", z.walked(3, 1), 2);
        Due.is("walked(3, 2)", z.walked(3, 2), 1);
        z.sign(2, 1, 2, 9, 2, false);
        dueWalk("the only way on is barred", z, 0, LOSS, 2, 2, 7);
    }

    private static void camps() {
        TwigsAndStones x = star();
        x.sign(0, 2, 0, 4, 1, true);
        x.sign(0, 0, 1, 9, 7, true);
        x.sign(1, 2, 1, 9, 1, true);
        dueWalk("camp is ahead of this way", x, 1, CAMP, 0, 1, 2);
        dueWalk("camp, begun", x, 0, CAMP, 0, 0, 0);
        dueWalk("camp not seen", x, 3, END, 2, 2, 14);
        x.days(4);
        dueWalk("camp gone", x, 1, END, 2, 2, 7);
        x.sign(2, 2, 0, 9, 2, false);
        dueWalk("camp at an end", x, 1, CAMP, 2, 2, 7);
        x.set(0, 9);
        dueWalk("camp is seen in fog", x, 3, CAMP, 2, 2, 14);
        dueWalk("this way is not", x, 1, LOSS, 0, 1, 2);
        TwigsAndStones y = star();
        y.sign(0, 3, 0, 9, 7, true);
        dueWalk("paint 0 is no camp", y, 0, LOSS, 0, 0, 0);
        y.sign(0, 0, 0, 9, 7, true);
        dueWalk("this way of path 0 is no camp", y, 0, END, 1, 1, 2);
    }

    private static void around() {
        TwigsAndStones x = new TwigsAndStones();
        x.path(0, 1, 1);
        x.path(1, 2, 2);
        x.path(2, 0, 4);
        x.path(2, 3, 8);
        x.sign(2, 1, 3, 60, 2, false);
        dueWalk("a ring, entered at 1", x, 1, LOSS, 1, 0, 0);
        x.sign(0, 0, 0, 60, 0, true);
        dueWalk("a ring", x, 0, AROUND, 1, 4, 8);
        x.sign(1, 0, 0, 60, 1, false);
        dueWalk("back through the beginning", x, 0, LOSS, 2, 3, 6);
        TwigsAndStones y = new TwigsAndStones();
        y.path(4, 5, 7);
        y.sign(4, 0, 0, 60, 1, false);
        y.sign(5, 0, 0, 60, 1, false);
        dueWalk("the other way is not around", y, 4, AROUND, 5, 3, 21);
        Due.is("walked(4, 1)", y.walked(4, 1), 5);
        Due.is("walked(4, 2)", y.walked(4, 2), 4);
        TwigsAndStones z = new TwigsAndStones();
        z.path(0, 1, 1);
        z.path(1, 2, 1);
        z.path(2, 0, 1);
        z.sign(0, 0, 0, 60, 0, true);
        z.sign(0, 2, 0, 60, 4, false);
        dueWalk("coming where it began is not around", z, 0, CAMP, 0, 3, 3);
    }

    private static void notesTaken() {
        TwigsAndStones x = star();
        Due.is("forget nothing", x.forget(), 0);
        Due.is("note(-2)", x.note(-2), OUTSIDE);
        Due.is("note(16)", x.note(16), OUTSIDE);
        Due.is("note(MIN)", x.note(MIN), OUTSIDE);
        Due.is("no notes", x.count(4), 0);
        for (int i = 1; i <= 8; i++) {
            Due.is("note", x.note(i == 1 ? 15 : -1), i);
        }
        Due.is("a ninth note", x.note(0), FULL);
        Due.is("outside before full", x.note(16), OUTSIDE);
        Due.is("eight notes", x.count(4), 8);
        Due.is("forget", x.forget(), 8);
        Due.is("forgotten", x.count(4), 0);
        Due.is("a note again", x.note(0), 1);
    }

    private static void waysByNotes() {
        TwigsAndStones x = star();
        Due.is("ways(-1)", x.ways(-1), UNKNOWN);
        Due.is("ways(10)", x.ways(10), UNKNOWN);
        Due.is("only(-1, 0)", x.only(-1, 0), UNKNOWN);
        Due.is("only(10, -1)", x.only(10, -1), UNKNOWN);
        Due.is("only(0, -1)", x.only(0, -1), OUTSIDE);
        Due.is("without notes", x.ways(0), 1);
        Due.is("without notes, its places", x.only(0, 0), NONE);
        x.sign(0, 0, 0, 9, 0, true);
        x.sign(0, 3, 0, 9, 1, true);
        x.sign(1, 1, 0, 9, 1, false);
        x.sign(2, 2, 5, 9, 2, true);
        x.sign(3, 2, 5, 9, 4, false);
        x.sign(3, 3, 5, 9, 4, false);
        x.note(9);
        Due.is("both kinds seen at the beginning", x.ways(0), 1);
        Due.is("its place", x.only(0, 0), 0);
        Due.is("no second place", x.only(0, 1), NONE);
        Due.is("not seen there", x.ways(1), 0);
        Due.is("no way, no place", x.only(1, 0), NONE);
        x.note(-1);
        Due.is("three ways on", x.ways(0), 3);
        Due.is("not just one", x.only(0, 0), NONE);
        x.forget();
        x.note(-1);
        x.note(4);
        Due.is("stones alone", x.ways(0), 1);
        Due.is("at 2", x.only(0, 1), 2);
        x.forget();
        x.note(-1);
        x.note(12);
        Due.is("stones and paint", x.ways(0), 1);
        Due.is("at 3", x.only(0, 1), 3);
        Due.is("MAX", x.only(0, MAX), NONE);
        x.forget();
        x.note(0);
        x.note(8);
        Due.is("paint seen by path 0", x.ways(1), 1);
        Due.is("at 0", x.only(1, 1), 0);
        Due.is("stones are seen where 2 begins", x.ways(2), 0);
        x.note(0);
        Due.is("nothing behind", x.ways(1), 0);
        x.forget();
        x.note(0);
        x.note(8);
        x.note(12);
        Due.is("on to 3", x.ways(1), 1);
        Due.is("first", x.only(1, 0), 1);
        Due.is("then", x.only(1, 1), 0);
        Due.is("then 3", x.only(1, 2), 3);
        Due.is("no fourth", x.only(1, 3), NONE);
        x.forget();
        x.note(1);
        Due.is("a part of what is seen is not it", x.ways(0), 0);
        x.forget();
        x.note(11);
        Due.is("more than what is seen is not it", x.ways(0), 0);
    }

    private static void waysBack() {
        TwigsAndStones x = star();
        x.note(-1);
        x.note(-1);
        x.note(-1);
        Due.is("back from ends, which have no other path", x.ways(0), 3);
        Due.is("not back where there is another", x.ways(1), 2);
        Due.is("a place without paths", x.ways(9), 0);
        x.path(1, 9, 1);
        Due.is("now 1 has another", x.ways(0), 3);
        Due.is("to and fro from 9", x.ways(9), 1);
        Due.is("9", x.only(9, 0), 9);
        Due.is("1", x.only(9, 1), 1);
        Due.is("0", x.only(9, 2), 0);
        TwigsAndStones y = new TwigsAndStones();
        y.path(0, 1, 1);
        for (int i = 0; i < 8; i++) {
            y.note(-1);
        }
        Due.is("to and fro", y.ways(1), 1);
        for (int i = 0; i < 8; i++) {
            Due.is("place " + i, y.only(1, i), (i + 1) % 2);
        }
        Due.is("place 8", y.only(1, 8), NONE);
    }

    private static void waysInFogAndAge() {
        TwigsAndStones x = star();
        x.sign(1, 0, 0, 9, 1, true);
        x.sign(2, 2, 0, 9, 2, true);
        x.note(-1);
        x.note(1);
        Due.is("this way is seen", x.ways(0), 1);
        x.set(0, 3);
        Due.is("not in fog", x.ways(0), 0);
        x.forget();
        x.note(-1);
        x.note(0);
        Due.is("nothing is seen at 1 and 3 in fog", x.ways(0), 2);
        x.set(0, 0);
        Due.is("nothing is seen at 3", x.only(0, 1), 3);
        x.days(9);
        Due.is("what is gone is not seen", x.ways(0), 3);
    }

    /** All places of 0 .. 5 joined: 5 ways at first, then 4 each. */
    private static void manyWays() {
        TwigsAndStones x = new TwigsAndStones();
        for (int a = 0; a < 6; a++) {
            for (int b = a + 1; b < 6; b++) {
                x.path(a, b, 1);
            }
        }
        int due = 1;
        for (int notes = 1; notes <= 8; notes++) {
            x.note(-1);
            due *= notes == 1 ? 1 : notes == 2 ? 5 : 4;
            Due.is("ways by " + notes + " notes", x.ways(3), due);
        }
    }
}
