import java.util.ArrayList;
import java.util.List;

/**
 * The document once more, in the plainest form: lists, ways gone one by one, no thought of speed. Written apart from the
 * program, so that both are wrong alike only where the document was read wrongly.
 */
final class PlainModel {
    private static final int NONE = -1, UNKNOWN = -2, OUTSIDE = -3, NOT = -4, FULL = -5;

    private record Path(int a, int b, int length) {
        boolean at(int place) {
            return a == place || b == place;
        }

        int other(int place) {
            return a == place ? b : a;
        }
    }

    private static final class Sign {
        int place, kind, v, life, day, seen;
        boolean start, turned;
    }

    private record Told(int club, int colour, int day) {
    }

    private final List<Path> paths = new ArrayList<>();
    private final List<Sign> signs = new ArrayList<>();
    private final List<Integer> notes = new ArrayList<>();
    private final List<Integer> route = new ArrayList<>();
    private final List<List<Integer>> trails = new ArrayList<>();
    private final List<Boolean> falseOnes = new ArrayList<>();
    private final List<Integer> branches = new ArrayList<>();
    private final List<Told> told = new ArrayList<>();
    private final int[] clubs = new int[4];
    private final int[] settings = {0, 0, 12};
    private int day = 0;
    private int weather = 0;

    private static boolean in(int v, int least, int most) {
        return least <= v && v <= most;
    }

    private int between(int a, int b) {
        for (int p = 0; p < paths.size(); p++) {
            if (a != b && paths.get(p).at(a) && paths.get(p).at(b)) {
                return p;
            }
        }
        return NONE;
    }

    private boolean there(int path, int place) {
        return in(path, 0, paths.size() - 1) && paths.get(path).at(place);
    }

    private List<Integer> pathsAt(int place) {
        List<Integer> found = new ArrayList<>();
        for (int p = 0; p < paths.size(); p++) {
            if (paths.get(p).at(place)) {
                found.add(p);
            }
        }
        return found;
    }

    int path(int a, int b, int length) {
        if (!in(a, 0, 9) || !in(b, 0, 9)) return UNKNOWN;
        if (a == b || length < 1 || length > 9) return OUTSIDE;
        if (between(a, b) >= 0) return NOT;
        if (paths.size() == 16) return FULL;
        paths.add(new Path(a, b, length));
        return paths.size() - 1;
    }

    int weather(int v) {
        if (!in(v, 0, 2)) return OUTSIDE;
        int was = weather;
        weather = v;
        return was;
    }

    int days(int n) {
        if (!in(n, 1, 30) || day + n > 400) return OUTSIDE;
        for (int i = 0; i < n; i++) {
            for (Sign s : signs) {
                int loss = s.kind == 2 || weather == 0 ? 1 : weather == 1 ? 2 : 4;
                for (int l = 0; l < loss; l++) {
                    if (s.life > 0) s.life--;
                }
            }
            day++;
        }
        return day;
    }

    int sign(int place, int kind, int v, int life, int seen, boolean start) {
        if (!in(place, 0, 9)) return UNKNOWN;
        if ((kind == 0 || kind == 1) && !there(v, place)) return UNKNOWN;
        if (!in(kind, 0, 3)) return OUTSIDE;
        if (kind == 2 && !in(v, 0, 9)) return OUTSIDE;
        if (kind == 3 && !in(v, 0, 5)) return OUTSIDE;
        if (!in(life, 1, 60)) return OUTSIDE;
        for (int bit = 0; bit < 32; bit++) {
            if ((seen >>> bit & 1) == 1 && !there(bit, place)) return OUTSIDE;
        }
        if (signs.size() == 24) return FULL;
        Sign s = new Sign();
        s.place = place;
        s.kind = kind;
        s.v = v;
        s.life = life;
        s.day = day;
        s.seen = seen;
        s.start = start;
        signs.add(s);
        return signs.size() - 1;
    }

    int turn(int sign, int path) {
        if (!in(sign, 0, signs.size() - 1)) return UNKNOWN;
        Sign s = signs.get(sign);
        if (!there(path, s.place)) return UNKNOWN;
        if (s.kind != 0 || s.life == 0 || s.v == path) return NOT;
        int was = s.v;
        s.v = path;
        s.turned = true;
        return was;
    }

    int at(int sign, int what) {
        if (!in(sign, 0, signs.size() - 1)) return UNKNOWN;
        if (!in(what, 0, 5)) return OUTSIDE;
        Sign s = signs.get(sign);
        return new int[] {s.place, s.kind, s.v, s.life, s.day, s.turned ? 1 : 0}[what];
    }

    int set(int what, int v) {
        if (!in(what, 0, 2)) return OUTSIDE;
        if (what < 2 ? !in(v, 0, 9) : !in(v, 1, 40)) return OUTSIDE;
        int was = settings[what];
        settings[what] = v;
        return was;
    }

    private boolean sees(Sign s, int place, int came) {
        if (s.place != place || s.life == 0) return false;
        if (came < 0) return s.start;
        if ((s.seen >> came & 1) == 0) return false;
        return s.kind >= 2 || paths.get(came).length() >= settings[0];
    }

    int seen(int place, int path) {
        if (!in(place, 0, 9) || (path != -1 && !there(path, place))) return UNKNOWN;
        int bits = 0;
        for (int s = 0; s < signs.size(); s++) {
            if (sees(signs.get(s), place, path)) bits += 1 << s;
        }
        return bits;
    }

    /** A path, or -10 at a loss, -11 at the end, -12 at a camp. */
    private int goes(int place, int came) {
        for (Sign s : signs) {
            if (sees(s, place, came) && s.kind == 2 && s.v == 0) return -12;
        }
        for (int s = signs.size() - 1; s >= 0; s--) {
            if (sees(signs.get(s), place, came) && signs.get(s).kind == 0) return signs.get(s).v;
        }
        List<Integer> others = pathsAt(place);
        others.remove((Integer) came);
        boolean anyOther = !others.isEmpty();
        for (Sign s : signs) {
            if (sees(s, place, came) && s.kind == 1) others.remove((Integer) s.v);
        }
        if (others.size() == 1) return others.get(0);
        return anyOther ? -10 : -11;
    }

    private int[] walkFrom(int place, List<Integer> row) {
        List<Integer> arcs = new ArrayList<>();
        int came = -1;
        int here = place;
        int length = 0;
        row.add(place);
        while (true) {
            int next = goes(here, came);
            if (next < 0) return new int[] {-10 - next, here, arcs.size(), length};
            if (arcs.size() == 30) return new int[] {4, here, 30, length};
            here = paths.get(next).other(here);
            came = next;
            length += paths.get(next).length();
            row.add(here);
            boolean before = arcs.contains(next * 10 + here);
            arcs.add(next * 10 + here);
            if (before) return new int[] {3, here, arcs.size(), length};
        }
    }

    int walk(int place, int what) {
        if (!in(place, 0, 9)) return UNKNOWN;
        if (!in(what, 0, 3)) return OUTSIDE;
        return walkFrom(place, new ArrayList<>())[what];
    }

    int walked(int place, int i) {
        if (!in(place, 0, 9)) return UNKNOWN;
        if (i < 0) return OUTSIDE;
        List<Integer> row = new ArrayList<>();
        walkFrom(place, row);
        return i < row.size() ? row.get(i) : NONE;
    }

    int note(int kinds) {
        if (!in(kinds, -1, 15)) return OUTSIDE;
        if (notes.size() == 8) return FULL;
        notes.add(kinds);
        return notes.size();
    }

    int forget() {
        int had = notes.size();
        notes.clear();
        return had;
    }

    private boolean fits(int note, int place, int came) {
        int kinds = 0;
        for (Sign s : signs) {
            if (sees(s, place, came)) kinds |= 1 << s.kind;
        }
        return notes.get(note) == -1 || notes.get(note) == kinds;
    }

    /** Counts the ways that begin with a row, and keeps the last one found. */
    private int waysOn(List<Integer> row, int came, List<Integer> last) {
        int here = row.get(row.size() - 1);
        if (!fits(row.size() - 1, here, came)) return 0;
        if (row.size() == notes.size()) {
            last.clear();
            last.addAll(row);
            return 1;
        }
        int sum = 0;
        List<Integer> exits = pathsAt(here);
        for (int p : exits) {
            if (p == came && exits.size() > 1) continue;
            row.add(paths.get(p).other(here));
            sum += waysOn(row, p, last);
            row.remove(row.size() - 1);
        }
        return sum;
    }

    private int waysFrom(int place, List<Integer> last) {
        if (notes.isEmpty()) return 1;
        List<Integer> row = new ArrayList<>();
        row.add(place);
        return waysOn(row, -1, last);
    }

    int ways(int place) {
        return in(place, 0, 9) ? waysFrom(place, new ArrayList<>()) : UNKNOWN;
    }

    int only(int place, int i) {
        if (!in(place, 0, 9)) return UNKNOWN;
        if (i < 0) return OUTSIDE;
        List<Integer> row = new ArrayList<>();
        return waysFrom(place, row) == 1 && i < row.size() ? row.get(i) : NONE;
    }

    int route(int place) {
        if (!in(place, 0, 9)) return UNKNOWN;
        if (route.contains(place)) return NOT;
        if (!route.isEmpty() && between(route.get(route.size() - 1), place) < 0) return NOT;
        if (route.size() == 10) return FULL;
        route.add(place);
        return route.size();
    }

    int unroute() {
        int had = route.size();
        route.clear();
        return had;
    }

    int needed(int way) {
        if (!in(way, 0, 1)) return OUTSIDE;
        List<Integer> row = new ArrayList<>();
        for (int place : route) {
            row.add(way == 0 ? row.size() : 0, place);
        }
        int bits = 0;
        for (int i = 0; i + 1 < row.size(); i++) {
            int here = row.get(i);
            int came = i == 0 ? -1 : between(row.get(i - 1), here);
            int right = between(here, row.get(i + 1));
            boolean harm = false;
            for (int p : pathsAt(here)) {
                boolean deadEnd = pathsAt(paths.get(p).other(here)).size() == 1;
                boolean harmless = deadEnd && paths.get(p).length() <= settings[1];
                harm |= p != came && p != right && !harmless;
            }
            if (harm && goes(here, came) != right) bits |= 1 << here;
        }
        return bits;
    }

    int trail(int place, boolean isFalse) {
        if (!in(place, 0, 9)) return UNKNOWN;
        if (trails.size() == 6) return FULL;
        trails.add(new ArrayList<>(List.of(place)));
        falseOnes.add(isFalse);
        return trails.size() - 1;
    }

    int add(int trail, int place) {
        if (!in(trail, 0, trails.size() - 1) || !in(place, 0, 9)) return UNKNOWN;
        List<Integer> row = trails.get(trail);
        if (row.contains(place) || between(row.get(row.size() - 1), place) < 0) return NOT;
        if (row.size() == 6) return FULL;
        row.add(place);
        return row.size();
    }

    int breaks(int trail) {
        if (!in(trail, 0, trails.size() - 1)) return UNKNOWN;
        if (!falseOnes.get(trail)) return 0;
        List<Integer> row = trails.get(trail);
        int bits = route.contains(row.get(0)) ? 0 : 1;
        int length = 0;
        for (int i = 1; i < row.size(); i++) {
            if (route.contains(row.get(i))) bits |= 2;
            length += paths.get(between(row.get(i - 1), row.get(i))).length();
        }
        if (length > settings[2]) bits |= 4;
        for (int other = 0; other < trails.size(); other++) {
            if (other == trail || !falseOnes.get(other)) continue;
            for (int place : trails.get(other)) {
                boolean bothBegin = row.get(0) == place && trails.get(other).get(0) == place;
                if (row.contains(place) && !bothBegin) bits |= 8;
            }
        }
        return bits;
    }

    int branch(int length) {
        if (!in(length, 1, 20)) return OUTSIDE;
        if (branches.size() == 5) return FULL;
        branches.add(length);
        return branches.size();
    }

    int unbranch() {
        int had = branches.size();
        branches.clear();
        return had;
    }

    private int found(int[] hound, int branch) {
        int time = 0;
        List<Integer> left = new ArrayList<>();
        for (int b = 0; b < branches.size(); b++) {
            if (hound[b] == hound[branch]) left.add(b);
        }
        while (true) {
            int next = left.get(0);
            for (int b : left) {
                if (branches.get(b) < branches.get(next)) next = b;
            }
            if (next == branch) return time + branches.get(next);
            time += 2 * branches.get(next);
            left.remove((Integer) next);
        }
    }

    private int[] best(int[] hound, int from, int hounds, int[] best) {
        if (from == branches.size()) {
            return best == null || worstOf(hound) < worstOf(best) ? hound.clone() : best;
        }
        for (int h = 0; h < hounds; h++) {
            hound[from] = h;
            best = best(hound, from + 1, hounds, best);
        }
        return best;
    }

    private int worstOf(int[] hound) {
        int worst = 0;
        for (int b = 0; b < branches.size(); b++) {
            worst = Math.max(worst, found(hound, b));
        }
        return worst;
    }

    int worst(int hounds) {
        if (!in(hounds, 1, 3)) return OUTSIDE;
        return worstOf(best(new int[branches.size()], 0, hounds, null));
    }

    int split(int hounds, int branch, int what) {
        if (!in(branch, 0, branches.size() - 1)) return UNKNOWN;
        if (!in(hounds, 1, 3) || !in(what, 0, 1)) return OUTSIDE;
        int[] hound = best(new int[branches.size()], 0, hounds, null);
        return what == 0 ? hound[branch] : found(hound, branch);
    }

    int club(int club, int bits) {
        if (!in(club, 0, 3)) return UNKNOWN;
        if (bits < 0 || bits >= 1 << paths.size()) return OUTSIDE;
        int was = clubs[club];
        clubs[club] = bits;
        return was;
    }

    int colour(int club, int colour, int from) {
        if (!in(club, 0, 3)) return UNKNOWN;
        if (!in(colour, 0, 5) || !in(from, 0, 400)) return OUTSIDE;
        if (told.size() == 8) return FULL;
        told.add(new Told(club, colour, from));
        return told.size();
    }

    int whose(int path, int colour, int on, int way) {
        if (!in(path, 0, paths.size() - 1)) return UNKNOWN;
        if (!in(colour, 0, 5) || !in(on, 0, 400) || !in(way, 0, 1)) return OUTSIDE;
        int bits = 0;
        for (int club = 0; club < 4; club++) {
            List<Told> his = new ArrayList<>();
            for (Told t : told) {
                if (t.club() == club && t.day() <= on) his.add(t);
            }
            his.sort((s, t) -> Integer.compare(s.day(), t.day()));
            boolean has = !his.isEmpty() && his.get(his.size() - 1).colour() == colour;
            boolean had = false;
            for (Told t : his) {
                had |= t.colour() == colour;
            }
            boolean ofPath = (clubs[club] >> path & 1) == 1;
            if (ofPath && (way == 0 ? has : had && !has)) bits |= 1 << club;
        }
        return bits;
    }

    int count(int what) {
        int left = 0;
        for (Sign s : signs) {
            left += s.life > 0 ? 1 : 0;
        }
        int[] counts = {paths.size(), signs.size(), left, day, notes.size(), route.size(), trails.size(), branches.size()};
        return in(what, 0, 7) ? counts[what] : OUTSIDE;
    }
}
