/** Promises 22 to 25 (branch, unbranch, worst, split): one test for each sentence that names a boundary case. */
public final class EdgesOfHoundsTest {
    private static final int UNKNOWN = -2, OUTSIDE = -3, FULL = -5;

    public static void main(String[] args) {
        Due.runAll(EdgesOfHoundsTest.class);
    }

    private static TwigsAndStones fork(int... lengths) {
        TwigsAndStones x = new TwigsAndStones();
        for (int length : lengths) {
            x.branch(length);
        }
        return x;
    }

    // ---- promise 22

    /** "BRANCHES .. 1 .. 20 LONG"; "OUTSIDE". */
    static void branchIsOneToTwentyLong() {
        Due.takesOnly("branch", 1, 20, OUTSIDE, length -> new TwigsAndStones().branch(length));
        for (int length = 1; length <= 20; length++) {
            for (int hounds = 1; hounds <= 3; hounds++) {
                Due.is("worst of one branch", fork(length).worst(hounds), length);
            }
        }
    }

    /** "A FORK has BRANCHES (5 at most)"; "how many"; "FULL". */
    static void branchesAreFiveAtMost() {
        TwigsAndStones x = new TwigsAndStones();
        for (int n = 1; n <= 5; n++) {
            Due.is("branch", x.branch(20), n);
        }
        Due.is("a sixth", x.branch(1), FULL);
        Due.is("and again", x.branch(20), FULL);
        Due.is("count(7)", x.count(7), 5);
        Due.is("the fifth is there", x.split(1, 4, 1), 180);
        Due.is("the sixth is not", x.split(1, 5, 1), UNKNOWN);
        Due.is("it is not looked through", x.worst(1), 180);
    }

    // ---- promise 23

    /** "There are no BRANCHES any more: how many there were": from none to five. */
    static void unbranchAnswersHowManyThereWere() {
        for (int n = 0; n <= 5; n++) {
            TwigsAndStones x = new TwigsAndStones();
            for (int b = 0; b < n; b++) {
                x.branch(20);
            }
            x.worst(2);
            Due.is("unbranch()", x.unbranch(), n);
            Due.is("none are left", x.count(7), 0);
            Due.is("and again", x.unbranch(), 0);
            Due.is("worst of none", x.worst(1), 0);
            Due.is("branch 0 is not there", x.split(1, 0, 0), UNKNOWN);
            Due.is("the next is the first", x.branch(3), 1);
            Due.is("and alone", x.worst(1), 3);
        }
    }

    // ---- promise 24

    /** "HOUNDS (1 .. 3)"; "OUTSIDE". */
    static void worstTakesHoundsOneToThree() {
        Due.takesOnly("worst", 1, 3, OUTSIDE, hounds -> fork(4, 9, 2).worst(hounds));
        Due.takesOnly("worst of a full fork", 1, 3, OUTSIDE, hounds -> Lands.full().worst(hounds));
    }

    /** "0 without BRANCHES": but how many hounds there may be is looked at first. */
    static void worstIsZeroWithoutBranches() {
        Due.takesOnly("worst of none", 1, 3, OUTSIDE, hounds -> new TwigsAndStones().worst(hounds));
        for (int hounds = 1; hounds <= 3; hounds++) {
            Due.is("worst(" + hounds + ") of none", new TwigsAndStones().worst(hounds), 0);
        }
    }

    /** "each there and back (as LONG each way)": but the last one, where it need not go back. */
    static void lastBranchIsGoneThereAlone() {
        Due.is("one", fork(7).worst(1), 7);
        Due.is("two", fork(7, 3).worst(1), 6 + 7);
        Due.is("the greatest of all", fork(20, 20, 20, 20, 20).worst(1), 180);
        Due.is("the least of all", fork(1, 1, 1, 1, 1).worst(1), 9);
    }

    /** "whichever it is": the longest is not always found last, when hounds part. */
    static void worstIsTheGreatestTimeOfAll() {
        Due.is("one alone, two by another", fork(10, 4, 4).worst(2), 12);
        Due.is("found at 0", fork(10, 4, 4).split(2, 0, 1), 10);
        Due.is("found at 2", fork(10, 4, 4).split(2, 2, 1), 12);
    }

    /** As many hounds as branches, or more: each its own, and no hound more helps. */
    static void moreHoundsThanBranches() {
        for (int hounds = 1; hounds <= 3; hounds++) {
            Due.is("one branch, hound of it", fork(5).split(hounds, 0, 0), 0);
        }
        Due.is("two branches, three hounds", fork(5, 9).worst(3), 9);
        Due.is("hound of 0", fork(5, 9).split(3, 0, 0), 0);
        Due.is("hound of 1", fork(5, 9).split(3, 1, 0), 1);
        Due.is("three branches, three hounds", fork(5, 9, 9).split(3, 2, 0), 2);
    }

    // ---- promise 25

    /** "UNKNOWN" (no such BRANCH). */
    static void splitTakesBranchesThatAreTold() {
        for (int what = 0; what <= 1; what++) {
            int w = what;
            Due.takesOnly("split of a branch", 0, 2, UNKNOWN, branch -> fork(4, 9, 2).split(2, branch, w));
            Due.takesOnly("split of five", 0, 4, UNKNOWN, branch -> Lands.full().split(3, branch, w));
            Due.takesOnly("split of one", 0, 0, UNKNOWN, branch -> fork(4).split(1, branch, w));
            for (int branch = 0; branch < 5; branch++) {
                Due.is("split of none", new TwigsAndStones().split(1, branch, w), UNKNOWN);
            }
        }
    }

    /** "OUTSIDE: hounds". */
    static void splitTakesHoundsOneToThree() {
        for (int what = 0; what <= 1; what++) {
            int w = what;
            Due.takesOnly("split by hounds", 1, 3, OUTSIDE, hounds -> fork(4, 9, 2).split(hounds, 2, w));
        }
    }

    /** "the HOUND (what 0), when it is found .. (1)"; "OUTSIDE: .. what". */
    static void splitTakesWhatZeroAndOne() {
        for (int h = 1; h <= 3; h++) {
            int hounds = h;
            Due.takesOnly("split", 0, 1, OUTSIDE, what -> fork(4, 9, 2).split(hounds, 0, what));
        }
    }

    /** "of several the first (by the HOUND of BRANCH 0, then 1, and so on)". */
    static void bestSplitIsTheFirstOfSeveral() {
        TwigsAndStones x = fork(20, 1, 1, 1, 1);
        int[] two = {0, 1, 1, 1, 1};
        for (int b = 0; b < 5; b++) {
            Due.is("two hounds, branch " + b, x.split(2, b, 0), two[b]);
            Due.is("three hounds, branch " + b, x.split(3, b, 0), two[b]);
        }
        TwigsAndStones y = fork(1, 1, 1, 1, 20);
        int[] last = {0, 0, 0, 0, 1};
        for (int b = 0; b < 5; b++) {
            Due.is("two hounds, the long one last, branch " + b, y.split(2, b, 0), last[b]);
            Due.is("three hounds, the long one last, branch " + b, y.split(3, b, 0), last[b]);
        }
        TwigsAndStones z = fork(6, 6, 6, 6);
        int[] like = {0, 0, 1, 1};
        for (int b = 0; b < 4; b++) {
            Due.is("like ones, branch " + b, z.split(2, b, 0), like[b]);
        }
    }

    /** "each HOUND looks at its shortest BRANCH first, of like ones the least". */
    static void shortestBranchIsLookedAtFirst() {
        TwigsAndStones x = fork(5, 3, 5, 1, 3);
        int[] due = {2 + 6 + 6 + 5, 2 + 3, 2 + 6 + 6 + 10 + 5, 1, 2 + 6 + 3};
        for (int b = 0; b < 5; b++) {
            Due.is("found at " + b, x.split(1, b, 1), due[b]);
        }
        TwigsAndStones y = fork(20, 20, 20, 20, 20);
        for (int b = 0; b < 5; b++) {
            Due.is("of like ones, at " + b, y.split(1, b, 1), 20 + 40 * b);
        }
        Due.is("shorter by one, at the longer", fork(7, 6).split(1, 0, 1), 12 + 7);
        Due.is("shorter by one, at the shorter", fork(7, 6).split(1, 1, 1), 6);
        Due.is("longer by one, at the longer", fork(6, 7).split(1, 1, 1), 12 + 7);
    }

    /** A branch more may change the split: nothing is kept from what was asked before. */
    static void splitIsOfTheBranchesThereAre() {
        TwigsAndStones x = fork(9, 4);
        Due.is("hound of 1", x.split(2, 1, 0), 1);
        x.branch(9);
        Due.is("hound of 1 then", x.split(2, 1, 0), 0);
        Due.is("hound of 2 then", x.split(2, 2, 0), 1);
        Due.is("worst", x.worst(2), 17);
        x.unbranch();
        x.branch(2);
        Due.is("hound of 0 alone", x.split(2, 0, 0), 0);
        Due.is("branch 1 is not there", x.split(2, 1, 0), UNKNOWN);
    }
}
