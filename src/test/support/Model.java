import java.util.ArrayDeque;
import java.util.ArrayList;
import java.util.Arrays;
import java.util.HashMap;
import java.util.List;
import java.util.Map;
import java.util.TreeSet;

/**
 * A slow and plain model of the document. It paints lines on a raster of half units, so that what it
 * does has little in common with the class. All lines are to stay within its width.
 */
final class Model {
    /** Answers that no call can give: the exceptions. */
    static final long ARGUMENT = Long.MIN_VALUE;
    static final long STATE = Long.MIN_VALUE + 1;
    private static final int[] DX = {1, 0, -1, 0};
    private static final int[] DY = {0, 1, 0, -1};

    final int width;
    final int raster;
    /** Each x0, y0, x1, y1, thickness. */
    final List<int[]> lines = new ArrayList<>();
    final List<List<int[]>> doors = new ArrayList<>();
    /** Each line, x, y, direction away from the line. */
    List<int[]> looseEnds = new ArrayList<>();
    /** Each x0, y0, x1, y1 (as gone along), line, left, right, direction. */
    List<int[]> sides = new ArrayList<>();
    List<List<List<int[]>>> rings = new ArrayList<>();
    int[][] painted = new int[0][0];
    int[][] oldPainted = new int[0][0];
    int[] names = new int[0];
    int spaces = 0;
    int oldSpaces = 0;
    int points = 0;
    int runs = 0;
    boolean fresh = false;

    Model(int width) {
        this.width = width;
        this.raster = 2 * width + 5;
    }

    int length(int line) {
        int[] l = lines.get(line);
        return l[2] - l[0] + l[3] - l[1];
    }

    long answer(int[] c) {
        switch (c[0]) {
            case Pair.LINE: return line(c);
            case Pair.MOVE: return move(c[1], c[2], c[3]);
            case Pair.DOOR: return door(c[1], c[2], c[3]);
            case Pair.RUN: return run();
            case Pair.AT: return c[1] < 0 || c[1] > 500 || c[2] < 0 || c[2] > 500 ? ARGUMENT : !fresh ? STATE : at(c[1], c[2]);
            case Pair.COUNT: return c[1] < 0 || c[1] > 4 ? ARGUMENT : !fresh ? STATE : count(c[1]);
            case Pair.WAY: return way(c[1], c[2]);
            case Pair.LOOSE: return loose(c[1], c[2]);
            case Pair.OVERLAP: return c[1] < 0 || !isSpace(c[2]) ? ARGUMENT : !fresh ? STATE : common(c[1], c[2]);
            default: return isSpace(c[1]) ? ofSpace(c) : ARGUMENT;
        }
    }

    boolean isSpace(int space) {
        return space >= 0 && space < spaces;
    }

    long ofSpace(int[] c) {
        int space = c[1];
        List<List<int[]>> own = rings.get(space);
        boolean hasRing = c.length > 2 && c[2] >= 0 && c[2] < own.size();
        switch (c[0]) {
            case Pair.RINGS: return fresh ? own.size() : STATE;
            case Pair.SIDES: return !hasRing ? ARGUMENT : fresh ? own.get(c[2]).size() : STATE;
            case Pair.SIDE: {
                if (!hasRing || c[3] < 0 || c[3] >= own.get(c[2]).size() || c[4] < 0 || c[4] > 5) return ARGUMENT;
                int[] s = own.get(c[2]).get(c[3]);
                return !fresh ? STATE : c[4] == 0 ? s[4] : c[4] == 5 ? s[6] : s[c[4] - 1];
            }
            case Pair.SIZE: return c[2] < 0 || c[2] > 2 ? ARGUMENT : fresh ? size(space, c[2]) : STATE;
            case Pair.NEIGHBOUR: return c[2] < 0 ? ARGUMENT : fresh ? neighbour(space, c[2]) : STATE;
            case Pair.BETWEEN: return c[2] < -1 || c[2] >= spaces ? ARGUMENT : fresh ? between(space, c[2]) : STATE;
            case Pair.NAME: {
                if (c[2] < 0 || c[2] > 1000) return ARGUMENT;
                if (!fresh) return STATE;
                int had = names[space];
                names[space] = c[2];
                return had;
            }
            default: return fresh ? names[space] : STATE;
        }
    }

    long line(int[] c) {
        for (int k = 1; k < 5; k++) if (c[k] < 0 || c[k] > 500) return ARGUMENT;
        if (c[5] < 0 || c[5] > 60 || c[5] % 2 != 0) return ARGUMENT;
        if (c[1] != c[3] && c[2] != c[4]) return ARGUMENT;
        if (c[1] == c[3] && c[2] == c[4]) return ARGUMENT;
        if (lines.size() == 20) return STATE;
        int[] l = {Math.min(c[1], c[3]), Math.min(c[2], c[4]), Math.max(c[1], c[3]), Math.max(c[2], c[4]), c[5]};
        if (liesAlong(l, -1)) return -1;
        lines.add(l);
        doors.add(new ArrayList<>());
        fresh = false;
        return lines.size() - 1;
    }

    boolean holds(int[] l, int x, int y) {
        return l[0] <= x && x <= l[2] && l[1] <= y && y <= l[3];
    }

    boolean liesAlong(int[] l, int but) {
        for (int k = 0; k < lines.size(); k++) {
            int shared = 0;
            for (int x = l[0]; x <= l[2]; x++) {
                for (int y = l[1]; y <= l[3]; y++) if (k != but && holds(lines.get(k), x, y)) shared++;
            }
            if (shared > 1) return true;
        }
        return false;
    }

    long move(int line, int dx, int dy) {
        if (line < 0 || line >= lines.size()) return ARGUMENT;
        int[] l = lines.get(line);
        long[] to = {(long) l[0] + dx, (long) l[1] + dy, (long) l[2] + dx, (long) l[3] + dy};
        for (long t : to) if (t < 0 || t > 500) return ARGUMENT;
        int[] moved = {(int) to[0], (int) to[1], (int) to[2], (int) to[3], l[4]};
        if (liesAlong(moved, line)) return 0;
        lines.set(line, moved);
        fresh = false;
        return 1;
    }

    long door(int line, int from, int to) {
        if (line < 0 || line >= lines.size() || from < 0 || to > length(line) || from >= to) return ARGUMENT;
        if (doors.get(line).size() == 6) return STATE;
        doors.get(line).add(new int[] {from, to});
        return doors.get(line).size();
    }

    long run() {
        if (runs == 100) return STATE;
        runs++;
        fresh = true;
        oldPainted = painted;
        oldSpaces = spaces;
        paint();
        net();
        findRings();
        passNames();
        findLooseEnds();
        return spaces;
    }

    /** Numbers on the raster: -2 a line, -1 outside, else the space; x stands at 2x + 2. */
    void paint() {
        painted = new int[raster][raster];
        for (int[] row : painted) Arrays.fill(row, -9);
        for (int[] l : lines) {
            for (int i = 2 * l[0] + 2; i <= 2 * l[2] + 2; i++) {
                for (int j = 2 * l[1] + 2; j <= 2 * l[3] + 2; j++) painted[i][j] = -2;
            }
        }
        flood(0, 0, -1);
        List<int[]> found = new ArrayList<>();
        for (int i = 0; i < raster; i++) {
            for (int j = 0; j < raster; j++) {
                if (painted[i][j] == -9) found.add(leastEdge(flood(i, j, -10 - found.size()), found.size()));
            }
        }
        spaces = found.size();
        found.sort((a, b) -> a[0] != b[0] ? a[0] - b[0] : a[1] - b[1]);
        int[] rank = new int[spaces];
        for (int k = 0; k < spaces; k++) rank[found.get(k)[2]] = k;
        for (int[] row : painted) {
            for (int j = 0; j < raster; j++) if (row[j] <= -10) row[j] = rank[-10 - row[j]];
        }
    }

    List<int[]> flood(int i0, int j0, int colour) {
        List<int[]> all = new ArrayList<>();
        painted[i0][j0] = colour;
        all.add(new int[] {i0, j0});
        for (int k = 0; k < all.size(); k++) {
            for (int d = 0; d < 4; d++) {
                int i = all.get(k)[0] + DX[d];
                int j = all.get(k)[1] + DY[d];
                if (i >= 0 && j >= 0 && i < raster && j < raster && painted[i][j] == -9) {
                    painted[i][j] = colour;
                    all.add(new int[] {i, j});
                }
            }
        }
        return all;
    }

    /** The least point with whole x and y of a line next to one of these, and which space it is. */
    int[] leastEdge(List<int[]> all, int which) {
        int[] least = {Integer.MAX_VALUE, Integer.MAX_VALUE, which};
        for (int[] p : all) {
            for (int i = p[0] - 1; i <= p[0] + 1; i++) {
                for (int j = p[1] - 1; j <= p[1] + 1; j++) {
                    boolean whole = i % 2 == 0 && j % 2 == 0 && painted[i][j] == -2;
                    if (whole && (i < least[0] || i == least[0] && j < least[1])) {
                        least[0] = i;
                        least[1] = j;
                    }
                }
            }
        }
        return least;
    }

    int linesAt(int x, int y) {
        int sum = 0;
        for (int[] l : lines) if (holds(l, x, y)) sum++;
        return sum;
    }

    void net() {
        sides = new ArrayList<>();
        TreeSet<Integer> all = new TreeSet<>();
        for (int k = 0; k < lines.size(); k++) {
            int[] l = lines.get(k);
            int flat = l[1] == l[3] ? 1 : 0;
            int lastX = l[0];
            int lastY = l[1];
            for (int step = 0; step <= length(k); step++) {
                int x = l[0] + flat * step;
                int y = l[1] + (1 - flat) * step;
                if (step != 0 && step != length(k) && linesAt(x, y) < 2) continue;
                all.add(1000 * x + y);
                if (step != 0) piece(k, lastX, lastY, x, y);
                lastX = x;
                lastY = y;
            }
        }
        points = all.size();
    }

    void piece(int line, int x0, int y0, int x1, int y1) {
        int d = y0 == y1 ? 0 : 1;
        int i = 2 * x0 + 2 + DX[d];
        int j = 2 * y0 + 2 + DY[d];
        int left = painted[i + DX[d + 1]][j + DY[d + 1]];
        int right = painted[i - DX[d + 1]][j - DY[d + 1]];
        sides.add(new int[] {x0, y0, x1, y1, line, left, right, d});
        sides.add(new int[] {x1, y1, x0, y0, line, right, left, d + 2});
    }

    void findRings() {
        rings = new ArrayList<>();
        for (int space = 0; space < spaces; space++) rings.add(new ArrayList<>());
        Map<Integer, int[]> from = new HashMap<>();
        for (int[] s : sides) from.put(key(s[0], s[1], s[7]), s);
        List<int[]> rest = new ArrayList<>(sides);
        while (!rest.isEmpty()) {
            List<int[]> ring = new ArrayList<>();
            int[] s = rest.get(0);
            do {
                ring.add(s);
                rest.remove(s);
                int[] next = null;
                for (int turn : new int[] {1, 0, 3, 2}) {
                    if (next == null) next = from.get(key(s[2], s[3], (s[7] + turn) % 4));
                }
                s = next;
            } while (s != ring.get(0));
            if (s[5] >= 0) rings.get(s[5]).add(turned(ring));
        }
        for (List<List<int[]>> own : rings) {
            own.sort((a, b) -> compareRings(a, b));
        }
    }

    int key(int x, int y, int d) {
        return (x * 1000 + y) * 4 + d;
    }

    List<int[]> turned(List<int[]> ring) {
        int best = 0;
        for (int k = 1; k < ring.size(); k++) {
            int[] s = ring.get(k);
            int[] b = ring.get(best);
            if (key(s[0], s[1], s[7]) < key(b[0], b[1], b[7])) best = k;
        }
        List<int[]> out = new ArrayList<>(ring.subList(best, ring.size()));
        out.addAll(ring.subList(0, best));
        return out;
    }

    /** The ring that turns to the left as a whole has the space inside. */
    int compareRings(List<int[]> a, List<int[]> b) {
        if (isOuter(a) != isOuter(b)) return isOuter(a) ? -1 : 1;
        return Integer.compare(key(a.get(0)[0], a.get(0)[1], 0), key(b.get(0)[0], b.get(0)[1], 0));
    }

    boolean isOuter(List<int[]> ring) {
        long twice = 0;
        for (int[] s : ring) twice += (long) s[0] * s[3] - (long) s[2] * s[1];
        return twice > 0;
    }

    void passNames() {
        int[] next = new int[spaces];
        int[] share = new int[spaces];
        for (int old = 0; old < oldSpaces; old++) {
            if (names[old] == 0) continue;
            int best = -1;
            for (int k = 0; k < spaces; k++) {
                if (common(old, k) > 0 && (best < 0 || common(old, k) > common(old, best))) best = k;
            }
            if (best >= 0 && common(old, best) > share[best]) {
                share[best] = common(old, best);
                next[best] = names[old];
            }
        }
        names = next;
    }

    int common(int old, int space) {
        int sum = 0;
        for (int i = 3; i < oldPainted.length; i += 2) {
            for (int j = 3; j < oldPainted.length; j += 2) {
                if (oldPainted[i][j] == old && painted[i][j] == space) sum++;
            }
        }
        return sum;
    }

    void findLooseEnds() {
        looseEnds = new ArrayList<>();
        for (int k = 0; k < lines.size(); k++) {
            int[] l = lines.get(k);
            int d = l[1] == l[3] ? 0 : 1;
            if (linesAt(l[0], l[1]) == 1) looseEnds.add(new int[] {k, l[0], l[1], d + 2});
            if (linesAt(l[2], l[3]) == 1) looseEnds.add(new int[] {k, l[2], l[3], d});
        }
        looseEnds.sort((a, b) -> a[1] != b[1] ? a[1] - b[1] : a[2] - b[2]);
    }

    long loose(int k, int what) {
        if (k < 0 || what < 0 || what > 3) return ARGUMENT;
        if (!fresh) return STATE;
        if (k >= looseEnds.size()) return ARGUMENT;
        int[] end = looseEnds.get(k);
        if (what < 3) return end[what];
        for (int far = 1; far <= 500; far++) {
            if (linesAt(end[1] + far * DX[end[3]], end[2] + far * DY[end[3]]) > 0) return far;
        }
        return -1;
    }

    long count(int what) {
        int outside = 0;
        for (int[] s : sides) if (s[5] == -1) outside++;
        int[] all = {spaces, points, sides.size() / 2, looseEnds.size(), outside};
        return all[what];
    }

    int lengthOf(int[] s) {
        return Math.abs(s[2] - s[0]) + Math.abs(s[3] - s[1]);
    }

    long size(int space, int what) {
        int area = 0;
        for (int i = 3; i < raster; i += 2) {
            for (int j = 3; j < raster; j += 2) if (painted[i][j] == space) area++;
        }
        int edge = 0;
        int walls = 0;
        for (int[] s : sides) {
            if (s[5] == space) {
                edge += lengthOf(s);
                walls += lengthOf(s) * lines.get(s[4])[4] / 2;
            }
        }
        return what == 0 ? area : what == 1 ? edge : area - walls;
    }

    long at(int x, int y) {
        if (linesAt(x, y) > 0) return -2;
        return x > width || y > width ? -1 : painted[2 * x + 2][2 * y + 2];
    }

    long neighbour(int space, int k) {
        TreeSet<Integer> all = new TreeSet<>();
        for (int[] s : sides) if (s[5] == space && s[6] != space) all.add(s[6]);
        return k < all.size() ? new ArrayList<>(all).get(k) : -2;
    }

    long between(int space, int other) {
        int sum = 0;
        for (int k = 0; k < sides.size(); k += 2) {
            int[] s = sides.get(k);
            if (s[5] == space && s[6] == other || s[6] == space && s[5] == other) sum += lengthOf(s);
        }
        return sum;
    }

    long way(int from, int to) {
        if (runs == 0 || from < -1 || from >= spaces || to < -1 || to >= spaces) return ARGUMENT;
        if (!fresh) return STATE;
        int[] far = new int[spaces + 1];
        Arrays.fill(far, -2);
        far[from + 1] = 0;
        ArrayDeque<Integer> queue = new ArrayDeque<>();
        queue.add(from);
        while (!queue.isEmpty()) {
            int here = queue.remove();
            for (int[] s : sides) {
                if (s[5] == here && far[s[6] + 1] == -2 && hasDoor(s)) {
                    far[s[6] + 1] = far[here + 1] + 1;
                    queue.add(s[6]);
                }
            }
        }
        return far[to + 1];
    }

    /** Looks at each unit of the side, whether it is a unit of a door. */
    boolean hasDoor(int[] s) {
        int[] l = lines.get(s[4]);
        int low = Math.min(s[0], s[2]) - l[0] + Math.min(s[1], s[3]) - l[1];
        for (int unit = low; unit < low + lengthOf(s); unit++) {
            for (int[] d : doors.get(s[4])) if (d[0] <= unit && unit < d[1]) return true;
        }
        return false;
    }
}
