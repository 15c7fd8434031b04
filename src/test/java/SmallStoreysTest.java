/**
 * Every storey whose lines lie on three by three points, by itself and within a box: each is asked all
 * that can be asked of it, and so is the model. The lines come in two heaps with a run behind each, and
 * one is then moved, so that spaces part and join again and names go on.
 */
public final class SmallStoreysTest {
    /** The ways to lay lines on one row of three points, each line from one point to another. */
    private static final int[][][] ROWS = {{}, {{0, 1}}, {{1, 2}}, {{0, 2}}, {{0, 1}, {1, 2}}};
    private static final int POINTS = 3;
    /** A line that is moved may come to stand beside the others. */
    private static final int FARTHEST_MOVE = 3;
    private static final int WIDTH = POINTS + 1 + FARTHEST_MOVE;

    private static int wrong = 0;
    private static int most = 0;

    public static void main(String[] args) {
        int all = 1;
        for (int row = 0; row < 2 * POINTS; row++) all *= ROWS.length;
        for (int number = 0; number < all && wrong < 20; number++) {
            hold(new Pair("storey " + number, WIDTH), number, 0);
            Pair boxed = new Pair("storey " + number + " in a box", WIDTH);
            drawBox(boxed);
            hold(boxed, number, 1);
        }
        if (most > Pair.MOST_CALLS) {
            wrong++;
            System.out.println(most + " calls of one object are more than is promised for");
        }
        System.out.println(wrong == 0 ? 2 * all + " storeys are as the model's" : wrong + " answers are not as the model's");
        if (wrong != 0) System.exit(1);
    }

    private static void hold(Pair pair, int number, int start) {
        build(pair, number, start);
        wrong += pair.wrong();
        most = Math.max(most, pair.calls());
    }

    private static void build(Pair pair, int number, int start) {
        int rest = number;
        for (int row = 0; row < 2 * POINTS; row++) {
            for (int[] ends : ROWS[rest % ROWS.length]) draw(pair, row, start, ends);
            rest /= ROWS.length;
            if (row == 3) {
                pair.ask(Pair.RUN);
                nameAll(pair);
            }
        }
        putDoors(pair, number);
        pair.ask(Pair.RUN);
        askAll(pair);
        nameAll(pair);
        int lines = pair.model.lines.size();
        int steps = FARTHEST_MOVE + 1;
        if (lines > 0) pair.ask(Pair.MOVE, number % lines, number % steps, number / steps % steps);
        pair.ask(Pair.RUN);
        askOfChange(pair);
    }

    /** Rows 0, 2, 4 lie, 1, 3, 5 stand; every second line is drawn from its high end. */
    private static void draw(Pair pair, int row, int start, int[] ends) {
        int at = start + row / 2;
        int number = pair.model.lines.size();
        int from = start + ends[number % 2];
        int to = start + ends[1 - number % 2];
        int thickness = 2 * (number * 7 % 31);
        if (row % 2 == 0) {
            pair.ask(Pair.LINE, from, at, to, at, thickness);
        } else {
            pair.ask(Pair.LINE, at, from, at, to, thickness);
        }
    }

    private static void drawBox(Pair pair) {
        int far = POINTS + 1;
        pair.ask(Pair.LINE, 0, 0, far, 0, 2);
        pair.ask(Pair.LINE, far, 0, far, far, 4);
        pair.ask(Pair.LINE, far, far, 0, far, 6);
        pair.ask(Pair.LINE, 0, far, 0, 0, 8);
    }

    /** A door in about every second line, over the whole of it or the half at one end. */
    private static void putDoors(Pair pair, int number) {
        for (int line = 0; line < pair.model.lines.size(); line++) {
            int length = pair.model.length(line);
            int kind = (number / 7 + 5 * line) % 6;
            if (kind == 0) pair.ask(Pair.DOOR, line, 0, length);
            if (kind == 1) pair.ask(Pair.DOOR, line, 0, 1);
            if (kind == 2) pair.ask(Pair.DOOR, line, length - 1, length);
        }
    }

    private static void nameAll(Pair pair) {
        for (int space = 0; space < pair.model.spaces; space++) pair.ask(Pair.NAME, space, 10 + pair.calls());
    }

    /** All answers to questions of one run, and one beyond each bound. */
    private static void askAll(Pair pair) {
        Model model = pair.model;
        for (int what = -1; what <= 5; what++) pair.ask(Pair.COUNT, what);
        for (int x = 0; x <= POINTS + 1; x++) {
            for (int y = 0; y <= POINTS + 1; y++) pair.ask(Pair.AT, x, y);
        }
        for (int k = 0; k <= model.looseEnds.size(); k++) {
            for (int what = 0; what <= 3; what++) pair.ask(Pair.LOOSE, k, what);
        }
        for (int space = 0; space < model.spaces; space++) {
            askRings(pair, space);
            for (int what = 0; what <= 2; what++) pair.ask(Pair.SIZE, space, what);
            for (int k = 0; k <= model.spaces; k++) pair.ask(Pair.NEIGHBOUR, space, k);
            for (int other = -1; other <= model.spaces; other++) pair.ask(Pair.BETWEEN, space, other);
        }
        for (int from = -1; from < model.spaces; from++) {
            for (int to = -1; to <= model.spaces; to++) pair.ask(Pair.WAY, from, to);
        }
        askOfChange(pair);
    }

    private static void askRings(Pair pair, int space) {
        int rings = pair.model.rings.get(space).size();
        pair.ask(Pair.RINGS, space);
        for (int ring = 0; ring <= rings; ring++) {
            pair.ask(Pair.SIDES, space, ring);
            int sides = ring < rings ? pair.model.rings.get(space).get(ring).size() : 0;
            for (int k = 0; k <= sides; k++) {
                for (int what = 0; what <= 5; what++) pair.ask(Pair.SIDE, space, ring, k, what);
            }
        }
    }

    private static void askOfChange(Pair pair) {
        for (int space = 0; space <= pair.model.spaces; space++) {
            pair.ask(Pair.NAME_OF, space);
            for (int old = 0; old <= pair.model.oldSpaces; old++) pair.ask(Pair.OVERLAP, old, space);
        }
    }
}
