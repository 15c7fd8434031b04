import java.util.Arrays;

/**
 * Spaces of a storey from its walls.
 *
 * A run lays a grid through the ends of all lines and floods its cells: cells that no line parts
 * are one space. Rings are then gone along on the points and pieces of the lines. All rows are
 * made with the object and used again by each run, so that no call makes anything.
 */
public final class SpaceCycles {
    public static final int NONE = -1;

    private static final int FARTHEST = 500;
    private static final int THICKEST = 60;
    private static final int MAX_NAME = 1000;
    private static final int MAX_RUNS = 100;

    /** The answer, beside NONE, for a point on a line, for no more neighbours and for no way. */
    private static final int NEITHER = -2;

    private static final int RIGHT = 0;
    private static final int UP = 1;
    private static final int LEFT = 2;
    private static final int DOWN = 3;
    private static final int DIRECTIONS = 4;

    private static final int TURN_LEFT = 1;
    private static final int TURN_BACK = 2;
    private static final int TURN_RIGHT = 3;

    private static final int MAX_LINES = 20;
    private static final int MAX_DOORS = 6;
    /** A line along an axis cuts it at both its ends, a line across it once. */
    private static final int MAX_CUTS = 2 * MAX_LINES;
    /** Lines meet crosswise in 10 times 10 points at most; all other points are ends. */
    private static final int MAX_MEETINGS = 100;
    private static final int MAX_POINTS = MAX_MEETINGS + 2 * MAX_LINES;
    /** Each meeting cuts two lines once more. */
    private static final int MAX_PIECES = 2 * MAX_MEETINGS + MAX_LINES;
    private static final int MAX_SIDES = 2 * MAX_PIECES;
    /** The shortest ring goes along one piece and back. */
    private static final int MAX_RINGS = MAX_PIECES;
    /** h lines along x and v along y close in (h - 1) * (v - 1) spaces at most. */
    private static final int MAX_SPACES = 81;

    private final Lines lines;
    private final Flood flood;
    private final Net net;
    private final Rings loops;
    private final Common common;
    private final Names names;
    private final Ways ways;
    private final boolean[] marked;
    private Grid now;
    private Grid before;
    private int runs;
    private boolean stale;

    public SpaceCycles() {
        lines = new Lines();
        flood = new Flood();
        net = new Net();
        loops = new Rings();
        common = new Common();
        names = new Names();
        ways = new Ways();
        marked = new boolean[MAX_SPACES + 1];
        now = new Grid();
        before = new Grid();
        runs = 0;
        stale = true;
    }

    public int line(int x0, int y0, int x1, int y1, int thickness)
            throws IllegalArgumentException, IllegalStateException {
        needCoordinate(x0);
        needCoordinate(y0);
        needCoordinate(x1);
        needCoordinate(y1);
        needBetween(thickness, 0, THICKEST);
        if (thickness % 2 != 0) {
            throw new IllegalArgumentException("the thickness is odd");
        }
        if ((x0 == x1) == (y0 == y1)) {
            throw new IllegalArgumentException("both ends are one, or the line stands askew");
        }
        if (lines.count >= MAX_LINES) {
            throw new IllegalStateException("there are 20 lines");
        }
        int lowX = Math.min(x0, x1);
        int lowY = Math.min(y0, y1);
        int highX = Math.max(x0, x1);
        int highY = Math.max(y0, y1);
        if (lines.someLieAlong(NONE, lowX, lowY, highX, highY)) {
            return NONE;
        }
        int added = lines.count;
        lines.count++;
        lines.put(added, lowX, lowY, highX, highY);
        lines.thickness[added] = thickness;
        stale = true;
        return added;
    }

    public boolean move(int line, int dx, int dy) throws IllegalArgumentException {
        needLine(line);
        needCoordinate((long) lines.lowX[line] + dx);
        needCoordinate((long) lines.lowY[line] + dy);
        needCoordinate((long) lines.highX[line] + dx);
        needCoordinate((long) lines.highY[line] + dy);
        int lowX = lines.lowX[line] + dx;
        int lowY = lines.lowY[line] + dy;
        int highX = lines.highX[line] + dx;
        int highY = lines.highY[line] + dy;
        if (lines.someLieAlong(line, lowX, lowY, highX, highY)) {
            return false;
        }
        lines.put(line, lowX, lowY, highX, highY);
        stale = true;
        return true;
    }

    public int door(int line, int from, int to) throws IllegalArgumentException, IllegalStateException {
        needLine(line);
        needBetween(from, 0, lines.length(line));
        needBetween(to, 0, lines.length(line));
        if (from >= to) {
            throw new IllegalArgumentException("from is not below to");
        }
        if (lines.doors[line] >= MAX_DOORS) {
            throw new IllegalStateException("the line has 6 doors");
        }
        return lines.addDoor(line, from, to);
    }

    public int run() throws IllegalStateException {
        if (runs >= MAX_RUNS) {
            throw new IllegalStateException("there were 100 runs");
        }
        runs++;
        stale = false;
        Grid oldest = before;
        before = now;
        now = oldest;
        now.cut(lines);
        flood.numberSpaces(lines, now);
        net.build(lines, now);
        loops.follow(net);
        common.forget();
        names.passOn(common, before, now);
        return now.spaces;
    }

    public int count(int what) throws IllegalArgumentException, IllegalStateException {
        needBetween(what, 0, 4);
        needFreshRun();
        switch (what) {
            case 0:
                return now.spaces;
            case 1:
                return net.points;
            case 2:
                return net.pieces;
            case 3:
                return net.looseEnds;
            default:
                return net.sidesOf(NONE);
        }
    }

    public int rings(int space) throws IllegalArgumentException, IllegalStateException {
        needSpace(space);
        needFreshRun();
        return loops.ringsOf(space);
    }

    public int sides(int space, int ring) throws IllegalArgumentException, IllegalStateException {
        needSpace(space);
        int found = needRing(space, ring);
        needFreshRun();
        return loops.lengthOf(found);
    }

    public int side(int space, int ring, int k, int what)
            throws IllegalArgumentException, IllegalStateException {
        needSpace(space);
        int found = needRing(space, ring);
        needBetween(k, 0, loops.lengthOf(found) - 1);
        needBetween(what, 0, 5);
        needFreshRun();
        int along = loops.sideOf(found, k);
        switch (what) {
            case 0:
                return net.lineOf(along);
            case 1:
                return net.pointX[net.beginningOf(along)];
            case 2:
                return net.pointY[net.beginningOf(along)];
            case 3:
                return net.pointX[net.endOf(along)];
            case 4:
                return net.pointY[net.endOf(along)];
            default:
                return net.onTheRight(along);
        }
    }

    public int size(int space, int what) throws IllegalArgumentException, IllegalStateException {
        needSpace(space);
        needBetween(what, 0, 2);
        needFreshRun();
        switch (what) {
            case 0:
                return net.areaOf(space);
            case 1:
                return net.edgeOf(space);
            default:
                return net.areaOf(space) - net.wallsIn(space, lines);
        }
    }

    public int at(int x, int y) throws IllegalArgumentException, IllegalStateException {
        needCoordinate(x);
        needCoordinate(y);
        needFreshRun();
        return lines.someHold(x, y) ? NEITHER : now.spaceAt(x, y);
    }

    public int neighbour(int space, int k) throws IllegalArgumentException, IllegalStateException {
        needSpace(space);
        if (k < 0) {
            throw new IllegalArgumentException("k is below 0");
        }
        needFreshRun();
        net.markNeighbours(space, marked);
        int left = k;
        for (int other = NONE; other < now.spaces; other++) {
            if (marked[other + 1]) {
                if (left == 0) {
                    return other;
                }
                left--;
            }
        }
        return NEITHER;
    }

    public int between(int space, int other) throws IllegalArgumentException, IllegalStateException {
        needSpace(space);
        needSpaceOrOutside(other);
        needFreshRun();
        return net.lengthBetween(space, other);
    }

    public int way(int space, int to) throws IllegalArgumentException, IllegalStateException {
        needSpaceOrOutside(space);
        needSpaceOrOutside(to);
        needFreshRun();
        return ways.doorsOnTheWay(lines, net, space, to);
    }

    public int loose(int k, int what) throws IllegalArgumentException, IllegalStateException {
        if (k < 0) {
            throw new IllegalArgumentException("k is below 0");
        }
        needBetween(what, 0, 3);
        needFreshRun();
        if (k >= net.looseEnds) {
            throw new IllegalArgumentException("there is no such loose end");
        }
        int inward = net.looseSides[k];
        int point = net.beginningOf(inward);
        switch (what) {
            case 0:
                return net.lineOf(inward);
            case 1:
                return net.pointX[point];
            case 2:
                return net.pointY[point];
            default:
                int outward = turned(net.directionOf(inward), TURN_BACK);
                return lines.reach(net.pointX[point], net.pointY[point], outward);
        }
    }

    public int name(int space, int name) throws IllegalArgumentException, IllegalStateException {
        needSpace(space);
        needBetween(name, 0, MAX_NAME);
        needFreshRun();
        int had = names.given[space];
        names.given[space] = name;
        return had;
    }

    public int nameOf(int space) throws IllegalArgumentException, IllegalStateException {
        needSpace(space);
        needFreshRun();
        return names.given[space];
    }

    public int overlap(int old, int space) throws IllegalArgumentException, IllegalStateException {
        if (old < 0) {
            throw new IllegalArgumentException("old is below 0");
        }
        needSpace(space);
        needFreshRun();
        if (old >= before.spaces) {
            return 0;
        }
        common.find(before, now);
        return common.areaOf(old, space);
    }

    private static void needBetween(int number, int least, int greatest) {
        if (number < least || number > greatest) {
            throw new IllegalArgumentException("a number is out of its bounds");
        }
    }

    private static void needCoordinate(long number) {
        if (number < 0 || number > FARTHEST) {
            throw new IllegalArgumentException("a point is out of 0 .. 500");
        }
    }

    private void needLine(int line) {
        if (line < 0 || line >= lines.count) {
            throw new IllegalArgumentException("there is no such line");
        }
    }

    private void needSpace(int space) {
        if (space < 0 || space >= now.spaces) {
            throw new IllegalArgumentException("there is no such space");
        }
    }

    /** Before the first run the outside is no space, either. */
    private void needSpaceOrOutside(int space) {
        if (runs == 0 || space < NONE || space >= now.spaces) {
            throw new IllegalArgumentException("there is no such space");
        }
    }

    private int needRing(int space, int ring) {
        int found = loops.find(space, ring);
        if (found == NONE) {
            throw new IllegalArgumentException("there is no such ring");
        }
        return found;
    }

    private void needFreshRun() {
        if (stale) {
            throw new IllegalStateException("there was no run since the lines came or were moved");
        }
    }

    /** Directions follow one another to the left, a quarter each. */
    private static int turned(int direction, int turn) {
        return (direction + turn) & (DIRECTIONS - 1);
    }

    /** The lines, from low end to high end, and their doors. */
    private static final class Lines {
        final int[] lowX = new int[MAX_LINES];
        final int[] lowY = new int[MAX_LINES];
        final int[] highX = new int[MAX_LINES];
        final int[] highY = new int[MAX_LINES];
        final int[] thickness = new int[MAX_LINES];
        final int[] doors = new int[MAX_LINES];
        final int[] doorFrom = new int[MAX_LINES * MAX_DOORS];
        final int[] doorTo = new int[MAX_LINES * MAX_DOORS];
        int count = 0;

        void put(int line, int x0, int y0, int x1, int y1) {
            lowX[line] = x0;
            lowY[line] = y0;
            highX[line] = x1;
            highY[line] = y1;
        }

        boolean isFlat(int line) {
            return lowY[line] == highY[line];
        }

        int length(int line) {
            return highX[line] - lowX[line] + highY[line] - lowY[line];
        }

        /** Whether a line (but for the one left out) has more than a point in common with that of these ends. */
        boolean someLieAlong(int leftOut, int x0, int y0, int x1, int y1) {
            for (int other = 0; other < count; other++) {
                int wide = Math.min(highX[other], x1) - Math.max(lowX[other], x0);
                int high = Math.min(highY[other], y1) - Math.max(lowY[other], y0);
                if (other != leftOut && wide >= 0 && high >= 0 && wide + high > 0) {
                    return true;
                }
            }
            return false;
        }

        boolean someHold(int x, int y) {
            for (int line = 0; line < count; line++) {
                if (lowX[line] <= x && x <= highX[line] && lowY[line] <= y && y <= highY[line]) {
                    return true;
                }
            }
            return false;
        }

        int addDoor(int line, int from, int to) {
            int added = line * MAX_DOORS + doors[line];
            doorFrom[added] = from;
            doorTo[added] = to;
            doors[line]++;
            return doors[line];
        }

        /** Whether a door has a part, of some length, of the line from one distance to another one. */
        boolean hasDoorWithin(int line, int from, int to) {
            int first = line * MAX_DOORS;
            for (int door = first; door < first + doors[line]; door++) {
                if (Math.min(doorTo[door], to) > Math.max(doorFrom[door], from)) {
                    return true;
                }
            }
            return false;
        }

        /** How far it is from a loose end to the next line; its own line is behind it, so needs no care. */
        int reach(int x, int y, int direction) {
            int nearest = NONE;
            for (int line = 0; line < count; line++) {
                int far = ahead(line, x, y, direction);
                if (far > 0 && (nearest == NONE || far < nearest)) {
                    nearest = far;
                }
            }
            return nearest;
        }

        /** How far ahead a line begins, not above 0 if it is not ahead. */
        private int ahead(int line, int x, int y, int direction) {
            boolean inRow = lowY[line] <= y && y <= highY[line];
            boolean inColumn = lowX[line] <= x && x <= highX[line];
            switch (direction) {
                case RIGHT:
                    return inRow ? lowX[line] - x : 0;
                case UP:
                    return inColumn ? lowY[line] - y : 0;
                case LEFT:
                    return inRow ? x - highX[line] : 0;
                default:
                    return inColumn ? y - highY[line] : 0;
            }
        }
    }

    /** Where the grid is cut along one axis: rising numbers, each one once. */
    private static final class Cuts {
        final int[] places = new int[MAX_CUTS];
        int count = 0;

        void add(int place) {
            int index = upTo(place);
            boolean isThere = index > 0 && places[index - 1] == place;
            if (isThere || count >= MAX_CUTS) {
                return;
            }
            for (int later = count; later > index; later--) {
                places[later] = places[later - 1];
            }
            places[index] = place;
            count++;
        }

        /** How many cuts are not beyond a place: the number, too, of the gap that begins there. */
        int upTo(int place) {
            int index = 0;
            while (index < count && places[index] <= place) {
                index++;
            }
            return index;
        }

        int indexOf(int place) {
            return Math.max(0, upTo(place) - 1);
        }
    }

    /**
     * The cells between cuts, with the space that each belongs to. Column c lies between the cuts
     * c - 1 and c, so that the outermost columns and rows are outside.
     */
    private static final class Grid {
        static final int STRIDE = MAX_CUTS + 1;
        static final int CELLS = STRIDE * STRIDE;

        final Cuts xs = new Cuts();
        final Cuts ys = new Cuts();
        final int[] cells = new int[CELLS];
        int spaces = 0;

        void cut(Lines lines) {
            xs.count = 0;
            ys.count = 0;
            for (int line = 0; line < lines.count; line++) {
                xs.add(lines.lowX[line]);
                xs.add(lines.highX[line]);
                ys.add(lines.lowY[line]);
                ys.add(lines.highY[line]);
            }
        }

        static int cell(int column, int row) {
            return column * STRIDE + row;
        }

        /** For a point on no line; on a cut it may stand, as the cells around it are then of one space. */
        int spaceAt(int x, int y) {
            return cells[cell(xs.upTo(x), ys.upTo(y))];
        }
    }

    /** Gives each cell of a grid its space. */
    private static final class Flood {
        private static final int DRY = -2;
        private static final int WALL_EAST = 1;
        private static final int WALL_NORTH = 2;

        private final int[] walls = new int[Grid.CELLS];
        private final int[] waiting = new int[Grid.CELLS];
        private int waits = 0;

        /** Going by columns, then rows, one comes first to that cell of a space that has its least point. */
        void numberSpaces(Lines lines, Grid grid) {
            dry(grid);
            for (int line = 0; line < lines.count; line++) {
                raise(lines, line, grid);
            }
            spread(grid, 0, NONE);
            grid.spaces = 0;
            for (int column = 1; column < grid.xs.count; column++) {
                for (int row = 1; row < grid.ys.count; row++) {
                    int cell = Grid.cell(column, row);
                    if (grid.cells[cell] == DRY && grid.spaces < MAX_SPACES) {
                        spread(grid, cell, grid.spaces);
                        grid.spaces++;
                    }
                }
            }
        }

        private void dry(Grid grid) {
            for (int column = 0; column <= grid.xs.count; column++) {
                int first = Grid.cell(column, 0);
                int end = Grid.cell(column, grid.ys.count) + 1;
                Arrays.fill(grid.cells, first, end, DRY);
                Arrays.fill(walls, first, end, 0);
            }
        }

        private void raise(Lines lines, int line, Grid grid) {
            int column = grid.xs.indexOf(lines.lowX[line]);
            int row = grid.ys.indexOf(lines.lowY[line]);
            int lastColumn = grid.xs.indexOf(lines.highX[line]);
            int lastRow = grid.ys.indexOf(lines.highY[line]);
            for (int c = column + 1; c <= lastColumn; c++) {
                walls[Grid.cell(c, row)] |= WALL_NORTH;
            }
            for (int r = row + 1; r <= lastRow; r++) {
                walls[Grid.cell(column, r)] |= WALL_EAST;
            }
        }

        private void spread(Grid grid, int start, int space) {
            waits = 0;
            wet(grid, start, space);
            for (int steps = 0; steps < Grid.CELLS && waits > 0; steps++) {
                waits--;
                int cell = waiting[waits];
                int column = cell / Grid.STRIDE;
                int row = cell % Grid.STRIDE;
                if (column < grid.xs.count && (walls[cell] & WALL_EAST) == 0) {
                    wet(grid, cell + Grid.STRIDE, space);
                }
                if (column > 0 && (walls[cell - Grid.STRIDE] & WALL_EAST) == 0) {
                    wet(grid, cell - Grid.STRIDE, space);
                }
                if (row < grid.ys.count && (walls[cell] & WALL_NORTH) == 0) {
                    wet(grid, cell + 1, space);
                }
                if (row > 0 && (walls[cell - 1] & WALL_NORTH) == 0) {
                    wet(grid, cell - 1, space);
                }
            }
        }

        private void wet(Grid grid, int cell, int space) {
            if (grid.cells[cell] == DRY && waits < Grid.CELLS) {
                grid.cells[cell] = space;
                waiting[waits] = cell;
                waits++;
            }
        }
    }

    /**
     * Points and pieces. A piece p has two sides: 2p goes along it from its low end, 2p + 1 back,
     * so that the other side of a piece is that with the last bit turned.
     */
    private static final class Net {
        private static final int MAX_NODES = MAX_CUTS * MAX_CUTS;
        /** What makes a node of the grid a point: one end, or two lines. */
        private static final int POINT_WEIGHT = 2;

        final int[] pointX = new int[MAX_POINTS];
        final int[] pointY = new int[MAX_POINTS];
        final int[] looseSides = new int[2 * MAX_LINES];
        int points = 0;
        int pieces = 0;
        int looseEnds = 0;
        private final int[] sidesOut = new int[MAX_POINTS * DIRECTIONS];
        private final int[] pieceLine = new int[MAX_PIECES];
        private final int[] begins = new int[MAX_SIDES];
        private final int[] directions = new int[MAX_SIDES];
        private final int[] leftSpaces = new int[MAX_SIDES];
        private final int[] weights = new int[MAX_NODES];
        private final int[] pointAt = new int[MAX_NODES];

        void build(Lines lines, Grid grid) {
            weigh(lines, grid);
            numberPoints(grid);
            pieces = 0;
            for (int line = 0; line < lines.count; line++) {
                cutIntoPieces(lines, line, grid);
            }
            findLooseEnds();
        }

        int lineOf(int side) {
            return pieceLine[side >> 1];
        }

        int beginningOf(int side) {
            return begins[side];
        }

        int endOf(int side) {
            return begins[side ^ 1];
        }

        int directionOf(int side) {
            return directions[side];
        }

        int onTheLeft(int side) {
            return leftSpaces[side];
        }

        int onTheRight(int side) {
            return leftSpaces[side ^ 1];
        }

        int sideFrom(int point, int direction) {
            return sidesOut[point * DIRECTIONS + direction];
        }

        int lengthOf(int side) {
            int from = begins[side];
            int to = begins[side ^ 1];
            return Math.abs(pointX[to] - pointX[from]) + Math.abs(pointY[to] - pointY[from]);
        }

        /** The way back is always there, so that there always is a next side. */
        int next(int side) {
            int point = endOf(side);
            int left = sideFrom(point, turned(directions[side], TURN_LEFT));
            int straight = sideFrom(point, directions[side]);
            int right = sideFrom(point, turned(directions[side], TURN_RIGHT));
            if (left != NONE) {
                return left;
            }
            if (straight != NONE) {
                return straight;
            }
            return right != NONE ? right : side ^ 1;
        }

        int sidesOf(int space) {
            int sum = 0;
            for (int side = 0; side < 2 * pieces; side++) {
                if (leftSpaces[side] == space) {
                    sum++;
                }
            }
            return sum;
        }

        /** With a space on the left hand, x times the way up, along all its rings, sums to its area. */
        int areaOf(int space) {
            int sum = 0;
            for (int side = 0; side < 2 * pieces; side++) {
                if (leftSpaces[side] == space) {
                    sum += pointX[begins[side]] * (pointY[endOf(side)] - pointY[begins[side]]);
                }
            }
            return sum;
        }

        int edgeOf(int space) {
            int sum = 0;
            for (int side = 0; side < 2 * pieces; side++) {
                if (leftSpaces[side] == space) {
                    sum += lengthOf(side);
                }
            }
            return sum;
        }

        int wallsIn(int space, Lines lines) {
            int sum = 0;
            for (int side = 0; side < 2 * pieces; side++) {
                if (leftSpaces[side] == space) {
                    sum += lengthOf(side) * (lines.thickness[lineOf(side)] / 2);
                }
            }
            return sum;
        }

        int lengthBetween(int space, int other) {
            int sum = 0;
            for (int side = 0; side < 2 * pieces; side++) {
                // A piece with one space on both sides would be met from both.
                boolean isMetTwice = space == other && (side & 1) != 0;
                if (!isMetTwice && leftSpaces[side] == space && onTheRight(side) == other) {
                    sum += lengthOf(side);
                }
            }
            return sum;
        }

        /** Marks stand one higher than the spaces' numbers, so that the outside has one. */
        void markNeighbours(int space, boolean[] marks) {
            for (int mark = 0; mark < marks.length; mark++) {
                marks[mark] = false;
            }
            for (int side = 0; side < 2 * pieces; side++) {
                int other = onTheRight(side);
                if (leftSpaces[side] == space && other != space && other + 1 < marks.length) {
                    marks[other + 1] = true;
                }
            }
        }

        private static int node(int column, int row) {
            return column * MAX_CUTS + row;
        }

        private void weigh(Lines lines, Grid grid) {
            for (int column = 0; column < grid.xs.count; column++) {
                Arrays.fill(weights, node(column, 0), node(column, grid.ys.count), 0);
            }
            for (int line = 0; line < lines.count; line++) {
                int low = node(grid.xs.indexOf(lines.lowX[line]), grid.ys.indexOf(lines.lowY[line]));
                int high = node(grid.xs.indexOf(lines.highX[line]), grid.ys.indexOf(lines.highY[line]));
                int step = lines.isFlat(line) ? MAX_CUTS : 1;
                for (int on = low; on <= high; on += step) {
                    weights[on] += on == low || on == high ? POINT_WEIGHT : 1;
                }
            }
        }

        /** Going by columns, then rows, points have numbers by x, then y. */
        private void numberPoints(Grid grid) {
            points = 0;
            for (int column = 0; column < grid.xs.count; column++) {
                for (int row = 0; row < grid.ys.count; row++) {
                    int node = node(column, row);
                    pointAt[node] = NONE;
                    if (weights[node] >= POINT_WEIGHT && points < MAX_POINTS) {
                        pointAt[node] = points;
                        pointX[points] = grid.xs.places[column];
                        pointY[points] = grid.ys.places[row];
                        points++;
                    }
                }
            }
            Arrays.fill(sidesOut, 0, points * DIRECTIONS, NONE);
        }

        private void cutIntoPieces(Lines lines, int line, Grid grid) {
            boolean flat = lines.isFlat(line);
            int column = grid.xs.indexOf(lines.lowX[line]);
            int row = grid.ys.indexOf(lines.lowY[line]);
            int steps = flat
                    ? grid.xs.indexOf(lines.highX[line]) - column
                    : grid.ys.indexOf(lines.highY[line]) - row;
            int latest = NONE;
            for (int step = 0; step <= steps; step++) {
                int c = flat ? column + step : column;
                int r = flat ? row : row + step;
                int point = pointAt[node(c, r)];
                if (point != NONE && latest != NONE && pieces < MAX_PIECES) {
                    // The cells on both sides of the last step are those of the whole piece.
                    int left = flat ? grid.cells[Grid.cell(c, r + 1)] : grid.cells[Grid.cell(c, r)];
                    int right = flat ? grid.cells[Grid.cell(c, r)] : grid.cells[Grid.cell(c + 1, r)];
                    pieceLine[pieces] = line;
                    addSide(2 * pieces, latest, flat ? RIGHT : UP, left);
                    addSide(2 * pieces + 1, point, flat ? LEFT : DOWN, right);
                    pieces++;
                }
                latest = point != NONE ? point : latest;
            }
        }

        private void addSide(int side, int from, int direction, int left) {
            begins[side] = from;
            directions[side] = direction;
            leftSpaces[side] = left;
            sidesOut[from * DIRECTIONS + direction] = side;
        }

        /** A point from which one side alone goes is an end that no other line comes to. */
        private void findLooseEnds() {
            looseEnds = 0;
            for (int point = 0; point < points; point++) {
                int found = NONE;
                int sides = 0;
                for (int direction = 0; direction < DIRECTIONS; direction++) {
                    int side = sideFrom(point, direction);
                    if (side != NONE) {
                        found = side;
                        sides++;
                    }
                }
                if (sides == 1 && looseEnds < looseSides.length) {
                    looseSides[looseEnds] = found;
                    looseEnds++;
                }
            }
        }
    }

    /** The rings of all spaces and of the outside, by their least points. */
    private static final class Rings {
        private final int[] order = new int[MAX_SIDES];
        private final boolean[] gone = new boolean[MAX_SIDES];
        private final int[] starts = new int[MAX_RINGS + 1];
        private final int[] spaces = new int[MAX_RINGS];
        private int count = 0;
        private int filled = 0;

        /**
         * Taking points by their numbers, and from each the directions in their order, one comes to
         * each ring first where it begins. The ring that has the whole space inside has its least
         * point, so it comes before the others.
         */
        void follow(Net net) {
            count = 0;
            filled = 0;
            for (int side = 0; side < 2 * net.pieces; side++) {
                gone[side] = false;
            }
            for (int point = 0; point < net.points; point++) {
                for (int direction = 0; direction < DIRECTIONS; direction++) {
                    int side = net.sideFrom(point, direction);
                    if (side != NONE && !gone[side] && count < MAX_RINGS) {
                        goRound(net, side);
                    }
                }
            }
        }

        private void goRound(Net net, int first) {
            spaces[count] = net.onTheLeft(first);
            starts[count] = filled;
            int side = first;
            for (int steps = 0; steps < 2 * net.pieces && !gone[side] && filled < MAX_SIDES; steps++) {
                gone[side] = true;
                order[filled] = side;
                filled++;
                side = net.next(side);
            }
            count++;
            starts[count] = filled;
        }

        int ringsOf(int space) {
            int sum = 0;
            for (int ring = 0; ring < count; ring++) {
                if (spaces[ring] == space) {
                    sum++;
                }
            }
            return sum;
        }

        /** The place here of a space's ring, NONE if it has no such ring. */
        int find(int space, int number) {
            int left = number;
            for (int ring = 0; ring < count && left >= 0; ring++) {
                if (spaces[ring] == space) {
                    if (left == 0) {
                        return ring;
                    }
                    left--;
                }
            }
            return NONE;
        }

        int lengthOf(int ring) {
            return starts[ring + 1] - starts[ring];
        }

        int sideOf(int ring, int k) {
            return order[starts[ring] + k];
        }
    }

    /** Along one axis: the parts that a gap of the old cuts and a gap of the new ones have in common. */
    private static final class Strips {
        private static final int MAX_STRIPS = 2 * MAX_CUTS;

        final int[] width = new int[MAX_STRIPS];
        final int[] oldGap = new int[MAX_STRIPS];
        final int[] newGap = new int[MAX_STRIPS];
        int count = 0;

        void find(Cuts old, Cuts latest) {
            count = 0;
            for (int i = 1; i < old.count; i++) {
                for (int j = 1; j < latest.count; j++) {
                    int from = Math.max(old.places[i - 1], latest.places[j - 1]);
                    int to = Math.min(old.places[i], latest.places[j]);
                    if (from < to && count < MAX_STRIPS) {
                        width[count] = to - from;
                        oldGap[count] = i;
                        newGap[count] = j;
                        count++;
                    }
                }
            }
        }
    }

    /** The areas that old spaces have in common with new ones, found only when they are asked for. */
    private static final class Common {
        private final Strips columns = new Strips();
        private final Strips rows = new Strips();
        private final int[] areas = new int[MAX_SPACES * MAX_SPACES];
        private boolean known = false;

        void forget() {
            known = false;
        }

        void find(Grid old, Grid latest) {
            if (known) {
                return;
            }
            known = true;
            Arrays.fill(areas, 0, old.spaces * MAX_SPACES, 0);
            columns.find(old.xs, latest.xs);
            rows.find(old.ys, latest.ys);
            for (int c = 0; c < columns.count; c++) {
                for (int r = 0; r < rows.count; r++) {
                    int was = old.cells[Grid.cell(columns.oldGap[c], rows.oldGap[r])];
                    int is = latest.cells[Grid.cell(columns.newGap[c], rows.newGap[r])];
                    if (was >= 0 && is >= 0) {
                        areas[was * MAX_SPACES + is] += columns.width[c] * rows.width[r];
                    }
                }
            }
        }

        int areaOf(int old, int space) {
            return areas[old * MAX_SPACES + space];
        }
    }

    /** The names of the latest run's spaces. */
    private static final class Names {
        final int[] given = new int[MAX_SPACES];
        private final int[] passed = new int[MAX_SPACES];
        private final int[] shares = new int[MAX_SPACES];

        void passOn(Common common, Grid old, Grid latest) {
            Arrays.fill(passed, 0);
            Arrays.fill(shares, 0);
            for (int space = 0; space < old.spaces; space++) {
                if (given[space] != 0) {
                    common.find(old, latest);
                    leave(common, space, latest.spaces);
                }
            }
            System.arraycopy(passed, 0, given, 0, MAX_SPACES);
        }

        private void leave(Common common, int old, int spaces) {
            int heir = NONE;
            int most = 0;
            for (int space = 0; space < spaces; space++) {
                if (common.areaOf(old, space) > most) {
                    most = common.areaOf(old, space);
                    heir = space;
                }
            }
            if (heir != NONE && most > shares[heir]) {
                shares[heir] = most;
                passed[heir] = given[old];
            }
        }
    }

    /** Ways through doors. Rows stand one higher than the spaces' numbers, so that the outside has a place. */
    private static final class Ways {
        /** More doors than any shortest way has. */
        private static final int TOO_FAR = 1000;

        private final int[] far = new int[MAX_SPACES + 1];
        private final int[] open = new int[MAX_PIECES];
        private int opens = 0;

        int doorsOnTheWay(Lines lines, Net net, int from, int to) {
            findOpenPieces(lines, net);
            Arrays.fill(far, TOO_FAR);
            far[from + 1] = 0;
            boolean found = true;
            for (int round = 0; round <= MAX_SPACES && found; round++) {
                found = findNearer(net);
            }
            return far[to + 1] < TOO_FAR ? far[to + 1] : NEITHER;
        }

        private void findOpenPieces(Lines lines, Net net) {
            opens = 0;
            for (int piece = 0; piece < net.pieces; piece++) {
                int line = net.lineOf(2 * piece);
                int point = net.beginningOf(2 * piece);
                int from = net.pointX[point] - lines.lowX[line] + net.pointY[point] - lines.lowY[line];
                if (opens < MAX_PIECES && lines.hasDoorWithin(line, from, from + net.lengthOf(2 * piece))) {
                    open[opens] = piece;
                    opens++;
                }
            }
        }

        private boolean findNearer(Net net) {
            boolean found = false;
            for (int k = 0; k < opens; k++) {
                int left = net.onTheLeft(2 * open[k]) + 1;
                int right = net.onTheRight(2 * open[k]) + 1;
                if (far[left] + 1 < far[right]) {
                    far[right] = far[left] + 1;
                    found = true;
                } else if (far[right] + 1 < far[left]) {
                    far[left] = far[right] + 1;
                    found = true;
                }
            }
            return found;
        }
    }
}
