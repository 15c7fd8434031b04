/** Long runs of made-up calls, each answered by the model, too. */
public final class ModelTest {
    private static int wrong = 0;
    private static long seed = 0;

    public static void main(String[] args) {
        int[][] kinds = {{3, 300}, {5, 400}, {8, 400}, {12, 300}, {25, 100}, {60, 30}, {500, 2}};
        int number = 0;
        for (int[] kind : kinds) {
            for (int k = 0; k < kind[1] && wrong < 20; k++) {
                number++;
                seed = 7919L * number;
                oneRun(number, kind[0], k % 4);
            }
        }
        System.out.println(wrong == 0 ? number + " runs are as the model's" : wrong + " answers are not as the model's");
        if (wrong != 0) System.exit(1);
    }

    private static int pick(int below) {
        seed = seed * 6364136223846793005L + 1442695040888963407L;
        return (int) ((seed >>> 33) % below);
    }

    private static void oneRun(int number, int width, int kind) {
        Pair pair = new Pair("run " + number, width);
        if (kind != 0) {
            int first = kind == 1 ? 8 : 20;
            for (int k = 0; k < first; k++) pair.ask(kind == 3 ? longLine(width) : someLine(width));
        }
        while (pair.calls() < Pair.MOST_CALLS) pair.ask(someCall(pair.model, width));
        wrong += pair.wrong();
    }

    private static int[] longLine(int width) {
        int at = pick(width + 1);
        int from = pick(1 + width / 4);
        int to = width - pick(1 + width / 4);
        return pick(2) == 0 ? new int[] {Pair.LINE, at, from, at, to, 2 * pick(31)} : new int[] {Pair.LINE, to, at, from, at, 2 * pick(31)};
    }

    private static int[] someLine(int width) {
        int x = pick(width + 1);
        int y = pick(width + 1);
        boolean flat = pick(2) == 0;
        int[] call = {Pair.LINE, x, y, flat ? pick(width + 1) : x, flat ? y : pick(width + 1), 2 * pick(31)};
        if (pick(40) == 0) call[1 + pick(5)] = odd(width);
        return call;
    }

    private static int odd(int width) {
        int[] some = {-1, 501, 61, 62, -2, 3, Integer.MAX_VALUE, Integer.MIN_VALUE};
        int value = some[pick(some.length)];
        return value > width && value <= 500 ? -1 : value;
    }

    private static int number(int upTo) {
        int some = pick(60);
        return some == 0 ? Integer.MAX_VALUE : some == 1 ? Integer.MIN_VALUE : pick(upTo + 3) - 1;
    }

    /** A call: which method, and its arguments. */
    private static int[] someCall(Model m, int width) {
        int spaces = m.spaces;
        switch (pick(26)) {
            case 0:
                return someLine(width);
            case 1:
            case 2:
                return someMove(m, width);
            case 3: {
                int line = number(m.lines.size());
                int length = line >= 0 && line < m.lines.size() ? m.length(line) : 5;
                return new int[] {Pair.DOOR, line, number(length), number(length)};
            }
            case 4:
            case 5:
            case 6:
                return new int[] {Pair.RUN};
            case 7:
                return new int[] {Pair.COUNT, number(5)};
            case 8:
                return new int[] {Pair.RINGS, number(spaces)};
            case 9:
                return new int[] {Pair.SIDES, number(spaces), number(2)};
            case 10:
            case 11:
            case 12:
            case 13:
                return new int[] {Pair.SIDE, number(spaces), pick(3) == 0 ? number(2) : 0, number(8), number(5)};
            case 14:
                return new int[] {Pair.SIZE, number(spaces), number(2)};
            case 15:
                return new int[] {Pair.AT, pick(width + 1), pick(30) == 0 ? odd(width) : pick(width + 1)};
            case 16:
            case 17:
                return new int[] {Pair.NEIGHBOUR, number(spaces), number(4)};
            case 18:
                return new int[] {Pair.BETWEEN, number(spaces), number(spaces)};
            case 19:
            case 20:
                return new int[] {Pair.WAY, number(spaces), number(spaces)};
            case 21:
                return new int[] {Pair.LOOSE, number(m.looseEnds.size()), number(3)};
            case 22:
                return new int[] {Pair.NAME, number(spaces), pick(8) == 0 ? number(1000) + pick(3) * 1000 : pick(1001)};
            case 23:
                return new int[] {Pair.NAME_OF, number(spaces)};
            default:
                return new int[] {Pair.OVERLAP, number(m.oldSpaces), number(spaces)};
        }
    }

    private static int[] someMove(Model m, int width) {
        int line = number(m.lines.size());
        int dx = pick(7) - 3;
        int dy = pick(7) - 3;
        if (pick(4) == 0) dx = pick(2 * width + 1) - width;
        if (pick(20) == 0) dy = pick(2) == 0 ? Integer.MAX_VALUE : Integer.MIN_VALUE;
        if (line >= 0 && line < m.lines.size()) {
            // The raster of the model holds only what is within the width.
            int[] l = m.lines.get(line);
            if (l[2] + (long) dx > width) dx = 0;
            if (l[3] + (long) dy > width && l[3] + (long) dy <= 500) dy = 0;
        }
        return new int[] {Pair.MOVE, line, dx, dy};
    }
}
