/** Promises 26 to 29 (club, colour, whose, count): one test for each sentence that names a boundary case. */
public final class EdgesOfClubsTest {
    private static final int UNKNOWN = -2, OUTSIDE = -3, FULL = -5;

    public static void main(String[] args) {
        Due.runAll(EdgesOfClubsTest.class);
    }

    /** The paths of a row, all of them of club 0. */
    private static TwigsAndStones ofClubZero() {
        TwigsAndStones x = Lands.row();
        x.club(0, 511);
        return x;
    }

    // ---- promise 26

    /** "CLUBS 0 .. 3"; "UNKNOWN". */
    static void clubTakesClubsZeroToThree() {
        Due.takesOnly("club", 0, 3, UNKNOWN, club -> Lands.row().club(club, 1));
        Due.takesOnly("club without paths", 0, 3, UNKNOWN, club -> new TwigsAndStones().club(club, 0));
    }

    /** "OUTSIDE: bits of no PATHS": all bits of those there are, none more; no bits at all. */
    static void clubTakesBitsOfPaths() {
        Due.takesOnly("bits of no path", 0, 0, OUTSIDE, bits -> new TwigsAndStones().club(0, bits));
        Due.takesOnly("bits of three paths", 0, 7, OUTSIDE, bits -> {
            TwigsAndStones x = new TwigsAndStones();
            x.path(0, 1, 1);
            x.path(1, 2, 1);
            x.path(2, 3, 1);
            return x.club(3, bits);
        });
        for (int bit = 0; bit < 32; bit++) {
            Due.is("bit " + bit + " of nine paths", Lands.row().club(1, 1 << bit), bit < 9 ? 0 : OUTSIDE);
            Due.is("bit " + bit + " of sixteen", Lands.sixteenPaths().club(1, 1 << bit), bit < 16 ? 0 : OUTSIDE);
        }
        Due.is("all sixteen", Lands.sixteenPaths().club(1, 65535), 0);
        Due.is("and one more", Lands.sixteenPaths().club(1, 65535 + 65536), OUTSIDE);
        Due.is("all bits", Lands.sixteenPaths().club(1, -1), OUTSIDE);
        TwigsAndStones x = Lands.row();
        Due.is("a path that is not there yet", x.club(0, 512), OUTSIDE);
        x.path(0, 9, 1);
        Due.is("as it is there", x.club(0, 512), 0);
    }

    /** "those that it had": of each club its own, at first none. */
    static void clubAnswersWhatItHad() {
        TwigsAndStones x = Lands.sixteenPaths();
        for (int club = 0; club <= 3; club++) {
            Due.is("at first", x.club(club, 65535 - club), 0);
        }
        for (int club = 0; club <= 3; club++) {
            Due.is("then", x.club(club, 0), 65535 - club);
            Due.is("refused", x.club(club, -1), OUTSIDE);
            Due.is("and then", x.club(club, 1 << club), 0);
        }
    }

    // ---- promise 27

    /** "UNKNOWN" (no such CLUB). */
    static void colourTakesClubsZeroToThree() {
        Due.takesOnly("colour of a club", 0, 3, UNKNOWN, club -> new TwigsAndStones().colour(club, 0, 0));
    }

    /** "a COLOUR (0 .. 5)"; "OUTSIDE". */
    static void colourIsZeroToFive() {
        Due.takesOnly("colour", 0, 5, OUTSIDE, colour -> new TwigsAndStones().colour(0, colour, 0));
        for (int colour = 0; colour <= 5; colour++) {
            TwigsAndStones x = ofClubZero();
            x.colour(0, colour, 0);
            for (int seen = 0; seen <= 5; seen++) {
                Due.is("mark " + seen + " of " + colour, x.whose(0, seen, 0, 0), seen == colour ? 1 : 0);
            }
        }
    }

    /** "from a day (0 .. 400) on"; "OUTSIDE": whatever the day is now. */
    static void colourIsFromDaysToFourHundred() {
        Due.takesOnly("from a day", 0, 400, OUTSIDE, day -> new TwigsAndStones().colour(0, 0, day));
        TwigsAndStones x = Lands.onDay(ofClubZero(), 400);
        Due.is("from a day gone by", x.colour(0, 1, 0), 1);
        Due.is("from a day that comes", ofClubZero().colour(0, 1, 400), 1);
    }

    /** "(8 such in all at most)"; "how many such are told"; "FULL": in all, not of each club. */
    static void coloursToldAreEightAtMost() {
        TwigsAndStones x = ofClubZero();
        for (int n = 1; n <= 8; n++) {
            Due.is("colour", x.colour(n % 4, n % 6, n), n);
        }
        for (int club = 0; club <= 3; club++) {
            Due.is("a ninth, of club " + club, x.colour(club, 0, 0), FULL);
        }
        Due.is("the eighth is told", x.whose(0, 2, 8, 0), 1);
        TwigsAndStones y = ofClubZero();
        for (int n = 1; n <= 8; n++) {
            Due.is("the same again is one more", y.colour(0, 1, 5), n);
        }
        Due.is("a ninth", y.colour(0, 2, 5), FULL);
        Due.is("it is not told", y.whose(0, 1, 5, 0), 1);
    }

    // ---- promise 28

    /** "UNKNOWN: PATH". */
    static void whoseTakesPathsThereAre() {
        for (int way = 0; way <= 1; way++) {
            int w = way;
            Due.takesOnly("whose of nine", 0, 8, UNKNOWN, path -> Lands.row().whose(path, 0, 0, w));
            Due.takesOnly("whose of sixteen", 0, 15, UNKNOWN, path -> Lands.full().whose(path, 0, 0, w));
            Due.is("without paths", new TwigsAndStones().whose(0, 0, 0, w), UNKNOWN);
        }
    }

    /** "OUTSIDE": the colour. */
    static void whoseTakesColoursZeroToFive() {
        Due.takesOnly("whose colour", 0, 5, OUTSIDE, colour -> Lands.ordinary().whose(0, colour, 0, 0));
    }

    /** "OUTSIDE": the day. */
    static void whoseTakesDaysToFourHundred() {
        Due.takesOnly("whose day", 0, 400, OUTSIDE, day -> Lands.ordinary().whose(0, 0, day, 1));
    }

    /** "(way 0), OLD ones (1)"; "OUTSIDE". */
    static void whoseTakesWaysZeroAndOne() {
        Due.takesOnly("whose way", 0, 1, OUTSIDE, way -> Lands.ordinary().whose(0, 0, 0, way));
    }

    /** "of what was told from that day or before": the day before, that day, the day behind it. */
    static void colourCountsFromItsDayOn() {
        for (int from : new int[] {0, 1, 200, 399, 400}) {
            TwigsAndStones x = ofClubZero();
            x.colour(0, 4, from);
            for (int day = Math.max(0, from - 1); day <= Math.min(400, from + 1); day++) {
                Due.is("from " + from + ", seen on " + day, x.whose(8, 4, day, 0), day >= from ? 1 : 0);
                Due.is("from " + from + ", seen on " + day + ", old", x.whose(8, 4, day, 1), 0);
            }
            Due.is("on the last day", x.whose(8, 4, 400, 0), 1);
        }
    }

    /** "have that COLOUR last": from the day of the next one on it is old. */
    static void colourIsOldFromTheDayOfTheNext() {
        TwigsAndStones x = ofClubZero();
        x.colour(0, 1, 100);
        x.colour(0, 2, 200);
        for (int day = 98; day <= 202; day++) {
            Due.is("1 on " + day, x.whose(0, 1, day, 0), day >= 100 && day < 200 ? 1 : 0);
            Due.is("1 on " + day + ", old", x.whose(0, 1, day, 1), day >= 200 ? 1 : 0);
            Due.is("2 on " + day, x.whose(0, 2, day, 0), day >= 200 ? 1 : 0);
            Due.is("2 on " + day + ", old", x.whose(0, 2, day, 1), 0);
        }
    }

    /** "last": of two from one day that which was told last. */
    static void colourToldLastOfADayIsLast() {
        TwigsAndStones x = ofClubZero();
        x.colour(0, 1, 0);
        x.colour(0, 2, 0);
        Due.is("1", x.whose(0, 1, 0, 0), 0);
        Due.is("1, old", x.whose(0, 1, 0, 1), 1);
        Due.is("2", x.whose(0, 2, 0, 0), 1);
        Due.is("2, old", x.whose(0, 2, 0, 1), 0);
    }

    /** "last": of two days the later one, though it was told first. */
    static void colourFromTheLaterDayIsLast() {
        for (int later = 51; later <= 52; later++) {
            TwigsAndStones x = ofClubZero();
            x.colour(0, 2, later);
            x.colour(0, 3, 50);
            Due.is("on the day before", x.whose(0, 3, later - 1, 0), 1);
            Due.is("on the later day", x.whose(0, 2, later, 0), 1);
            Due.is("on the later day the other one", x.whose(0, 3, later, 0), 0);
            Due.is("is old", x.whose(0, 3, later, 1), 1);
        }
    }

    /** "that had that COLOUR before, but not then": had again it is not old. */
    static void colourHadAgainIsNotOld() {
        TwigsAndStones x = ofClubZero();
        x.colour(0, 1, 10);
        x.colour(0, 2, 20);
        x.colour(0, 1, 30);
        Due.is("on 29", x.whose(0, 1, 29, 1), 1);
        Due.is("on 30", x.whose(0, 1, 30, 1), 0);
        Due.is("on 30, new", x.whose(0, 1, 30, 0), 1);
        Due.is("the one between", x.whose(0, 2, 30, 1), 1);
        TwigsAndStones y = ofClubZero();
        y.colour(0, 1, 10);
        y.colour(0, 1, 20);
        Due.is("told again", y.whose(0, 1, 25, 0), 1);
        Due.is("told again, old", y.whose(0, 1, 25, 1), 0);
    }

    /** "CLUBS that had that PATH": of four all, some, none; by bits. */
    static void ownersHaveThePath() {
        for (int sets = 0; sets <= 15; sets++) {
            TwigsAndStones x = Lands.row();
            for (int club = 0; club <= 3; club++) {
                x.colour(club, 1, 0);
                x.colour(club, 2, 9);
                x.club(club, (sets >> club & 1) == 1 ? 256 : 255);
            }
            Due.is("path 8", x.whose(8, 1, 0, 0), sets);
            Due.is("path 7", x.whose(7, 1, 0, 0), 15 - sets);
            Due.is("path 8, old", x.whose(8, 1, 9, 1), sets);
            Due.is("path 7, old", x.whose(7, 1, 9, 1), 15 - sets);
        }
    }

    /** Clubs with no colour told own no mark, new or old. */
    static void ownersHaveAColour() {
        TwigsAndStones x = Lands.row();
        for (int club = 0; club <= 3; club++) {
            x.club(club, 511);
        }
        for (int colour = 0; colour <= 5; colour++) {
            Due.is("new", x.whose(0, colour, 400, 0), 0);
            Due.is("old", x.whose(0, colour, 400, 1), 0);
        }
        x.colour(3, 0, 400);
        Due.is("before its day", x.whose(0, 0, 399, 0), 0);
        Due.is("on its day", x.whose(0, 0, 400, 0), 8);
    }

    // ---- promise 29

    /** "0 PATHS .. 7 BRANCHES"; "OUTSIDE". */
    static void countTakesWhatZeroToSeven() {
        Due.takesOnly("count of nothing", 0, 7, OUTSIDE, what -> new TwigsAndStones().count(what));
        Due.takesOnly("count of some", 0, 7, OUTSIDE, what -> Lands.ordinary().count(what));
    }

    /** Each is 0 with nothing there. */
    static void countOfNothingIsZero() {
        for (int what = 0; what <= 7; what++) {
            Due.is("count(" + what + ")", new TwigsAndStones().count(what), 0);
        }
    }

    /** Each is its own. */
    static void countOfSome() {
        int[] due = {7, 6, 5, 4, 2, 4, 3, 3};
        for (int what = 0; what <= 7; what++) {
            Due.is("count(" + what + ")", Lands.ordinary().count(what), due[what]);
        }
    }

    /** Each is as much as there may be. */
    static void countOfAll() {
        int[] due = {16, 24, 24, 400, 8, 10, 6, 5};
        for (int what = 0; what <= 7; what++) {
            Due.is("count(" + what + ")", Lands.full().count(what), due[what]);
        }
    }

    /** "2 those not GONE": from all to none, as they wear. */
    static void countOfThoseNotGone() {
        TwigsAndStones x = Lands.row();
        for (int i = 0; i < 24; i++) {
            x.sign(0, 2, 1, i + 1, 0, true);
        }
        for (int day = 0; day <= 25; day++) {
            Due.is("on day " + day, x.count(2), Math.max(0, 24 - day));
            Due.is("signs", x.count(1), 24);
            x.days(1);
        }
    }
}
