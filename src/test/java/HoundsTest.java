/** Promises 22 to 25: branch, unbranch, worst, split. */
public final class HoundsTest {
    private static final int UNKNOWN = -2, OUTSIDE = -3, FULL = -5;

    public static void main(String[] args) {
        branches();
        oneHound();
        refusedSplits();
        likeBranches();
        firstOfBestSplits();
        allForks();
        askedBefore();
        Due.end();
    }

    private static TwigsAndStones fork(int... lengths) {
        TwigsAndStones x = new TwigsAndStones();
        for (int length : lengths) {
            x.branch(length);
        }
        return x;
    }

    private static void branches() {
        TwigsAndStones x = new TwigsAndStones();
        Due.is("unbranch nothing", x.unbranch(), 0);
        Due.is("branch(0)", x.branch(0), OUTSIDE);
        Due.is("branch(21)", x.branch(21), OUTSIDE);
        Due.is("branch(-5)", x.branch(-5), OUTSIDE);
        Due.is("no branches", x.count(7), 0);
        for (int i = 1; i <= 5; i++) {
            Due.is("branch " + i, x.branch(i == 1 ? 1 : 20), i);
        }
        Due.is("a sixth", x.branch(3), FULL);
        Due.is("outside before full", x.branch(21), OUTSIDE);
        Due.is("five branches", x.count(7), 5);
        Due.is("unbranch", x.unbranch(), 5);
        Due.is("none any more", x.count(7), 0);
        Due.is("worst of none", x.worst(2), 0);
        Due.is("a branch again", x.branch(7), 1);
        Due.is("its worst", x.worst(3), 7);
    }

    private static void oneHound() {
        TwigsAndStones x = fork(4, 9, 2);
        Due.is("worst(1)", x.worst(1), 21);
        Due.is("found at 0", x.split(1, 0, 1), 8);
        Due.is("found at 1", x.split(1, 1, 1), 21);
        Due.is("found at 2", x.split(1, 2, 1), 2);
        for (int b = 0; b < 3; b++) {
            Due.is("the hound of " + b, x.split(1, b, 0), 0);
        }
        Due.is("worst(3)", x.worst(3), 9);
    }

    private static void refusedSplits() {
        TwigsAndStones x = fork(4, 9);
        Due.is("worst(0)", x.worst(0), OUTSIDE);
        Due.is("worst(4)", x.worst(4), OUTSIDE);
        Due.is("worst(-1)", x.worst(-1), OUTSIDE);
        Due.is("split branch -1", x.split(1, -1, 0), UNKNOWN);
        Due.is("split branch 2", x.split(1, 2, 0), UNKNOWN);
        Due.is("split unknown before outside", x.split(0, 2, 5), UNKNOWN);
        Due.is("split hounds 0", x.split(0, 0, 0), OUTSIDE);
        Due.is("split hounds 4", x.split(4, 0, 0), OUTSIDE);
        Due.is("split what -1", x.split(1, 0, -1), OUTSIDE);
        Due.is("split what 2", x.split(1, 0, 2), OUTSIDE);
        Due.is("split of none", new TwigsAndStones().split(1, 0, 0), UNKNOWN);
    }

    private static void likeBranches() {
        TwigsAndStones x = fork(3, 3, 3);
        Due.is("worst(1)", x.worst(1), 15);
        for (int b = 0; b < 3; b++) {
            Due.is("of like ones the least first: " + b, x.split(1, b, 1), 3 + 6 * b);
        }
        Due.is("worst(2)", x.worst(2), 9);
        Due.is("split(2, 0, 0)", x.split(2, 0, 0), 0);
        Due.is("split(2, 1, 0)", x.split(2, 1, 0), 0);
        Due.is("split(2, 2, 0)", x.split(2, 2, 0), 1);
        Due.is("worst(3)", x.worst(3), 3);
        for (int b = 0; b < 3; b++) {
            Due.is("each has one: " + b, x.split(3, b, 0), b);
            Due.is("found: " + b, x.split(3, b, 1), 3);
        }
    }

    private static void firstOfBestSplits() {
        TwigsAndStones x = fork(20, 1, 1);
        Due.is("worst(2)", x.worst(2), 20);
        Due.is("the long one", x.split(2, 0, 0), 0);
        Due.is("a short one", x.split(2, 1, 0), 1);
        Due.is("the other short one", x.split(2, 2, 0), 1);
        Due.is("worst(3)", x.worst(3), 20);
        Due.is("a hound may have nothing to do", x.split(3, 2, 0), 1);
        Due.is("found behind the other", x.split(3, 2, 1), 3);
        TwigsAndStones y = fork(2);
        Due.is("one branch, three hounds", y.split(3, 0, 0), 0);
    }

    /** Each answer stands for itself, whatever was asked before. */
    private static void askedBefore() {
        TwigsAndStones x = fork(5, 3, 3, 10, 1);
        for (int times = 0; times < 2; times++) {
            dueBest(x, new int[] {5, 3, 3, 10, 1}, 5, 3);
            dueBest(x, new int[] {5, 3, 3, 10, 1}, 5, 1);
            dueBest(x, new int[] {5, 3, 3, 10, 1}, 5, 2);
        }
        x.unbranch();
        x.branch(4);
        x.branch(4);
        dueBest(x, new int[] {4, 4}, 2, 1);
        dueBest(x, new int[] {4, 4}, 2, 3);
        TwigsAndStones y = fork(20, 20, 20, 20, 20);
        dueBest(y, new int[] {20, 20, 20, 20, 20}, 5, 3);
        dueBest(y, new int[] {20, 20, 20, 20, 20}, 5, 2);
    }

    /** Every fork of up to four short branches, against all splits looked at one by one. */
    private static void allForks() {
        for (int code = 0; code < 5 * 5 * 5 * 5; code++) {
            int[] lengths = new int[4];
            int n = 0;
            for (int rest = code; rest > 0; rest /= 5) {
                lengths[n] = rest % 5 * 3 - 2;
                n += rest % 5 > 0 ? 1 : 0;
            }
            TwigsAndStones x = new TwigsAndStones();
            for (int b = 0; b < n; b++) {
                x.branch(lengths[b]);
            }
            for (int hounds = 1; hounds <= 3; hounds++) {
                dueBest(x, lengths, n, hounds);
            }
        }
    }

    private static void dueBest(TwigsAndStones x, int[] lengths, int n, int hounds) {
        int splits = 1;
        for (int b = 0; b < n; b++) {
            splits *= hounds;
        }
        int least = Integer.MAX_VALUE;
        int[] best = new int[n];
        for (int split = 0; split < splits; split++) {
            int[] hound = new int[n];
            int rest = split;
            for (int b = n - 1; b >= 0; b--) {
                hound[b] = rest % hounds;
                rest /= hounds;
            }
            int worst = 0;
            for (int b = 0; b < n; b++) {
                worst = Math.max(worst, time(lengths, hound, n, b));
            }
            if (worst < least) {
                least = worst;
                best = hound;
            }
        }
        Due.is("worst(" + hounds + ") of " + n, x.worst(hounds), least);
        for (int b = 0; b < n; b++) {
            Due.is("hound", x.split(hounds, b, 0), best[b]);
            Due.is("found", x.split(hounds, b, 1), time(lengths, best, n, b));
        }
    }

    private static int time(int[] lengths, int[] hound, int n, int branch) {
        int time = lengths[branch];
        for (int b = 0; b < n; b++) {
            boolean before = lengths[b] < lengths[branch] || (lengths[b] == lengths[branch] && b < branch);
            time += hound[b] == hound[branch] && before ? 2 * lengths[b] : 0;
        }
        return time;
    }
}
