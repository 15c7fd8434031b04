import java.util.Arrays;

/** An object and a model of the document, which are asked the same. A call is a row: which one, and its arguments. */
final class Pair {
    static final int LINE = 0;
    static final int MOVE = 1;
    static final int DOOR = 2;
    static final int RUN = 3;
    static final int COUNT = 4;
    static final int RINGS = 5;
    static final int SIDES = 6;
    static final int SIDE = 7;
    static final int SIZE = 8;
    static final int AT = 9;
    static final int NEIGHBOUR = 10;
    static final int BETWEEN = 11;
    static final int WAY = 12;
    static final int LOOSE = 13;
    static final int NAME = 14;
    static final int NAME_OF = 15;
    static final int OVERLAP = 16;
    /** More calls are not promised for one object. */
    static final int MOST_CALLS = 512;

    private static final long OTHER = Long.MIN_VALUE + 2;

    final Model model;
    private final SpaceCycles object = new SpaceCycles();
    private final String title;
    private int calls = 0;
    private int wrong = 0;

    Pair(String title, int width) {
        this.title = title;
        model = new Model(width);
    }

    int calls() {
        return calls;
    }

    /** How many answers were not the model's. */
    int wrong() {
        return wrong;
    }

    void ask(int... call) {
        calls++;
        long want = model.answer(call);
        long got = OTHER;
        try {
            got = answer(call);
        } catch (RuntimeException e) {
            // A class below these two would be one that the machine or the library throws.
            if (e.getClass() == IllegalArgumentException.class) got = Model.ARGUMENT;
            if (e.getClass() == IllegalStateException.class) got = Model.STATE;
        }
        if (got != want) {
            wrong++;
            System.out.println(title + ", call " + calls + ": " + Arrays.toString(call)
                    + " answered " + written(got) + ", the model " + written(want));
        }
    }

    private static String written(long answer) {
        return answer == Model.ARGUMENT ? "illegal argument" : answer == Model.STATE ? "illegal state"
                : answer == OTHER ? "another exception" : "" + answer;
    }

    private long answer(int[] c) {
        switch (c[0]) {
            case LINE: return object.line(c[1], c[2], c[3], c[4], c[5]);
            case MOVE: return object.move(c[1], c[2], c[3]) ? 1 : 0;
            case DOOR: return object.door(c[1], c[2], c[3]);
            case RUN: return object.run();
            case COUNT: return object.count(c[1]);
            case RINGS: return object.rings(c[1]);
            case SIDES: return object.sides(c[1], c[2]);
            case SIDE: return object.side(c[1], c[2], c[3], c[4]);
            case SIZE: return object.size(c[1], c[2]);
            case AT: return object.at(c[1], c[2]);
            case NEIGHBOUR: return object.neighbour(c[1], c[2]);
            case BETWEEN: return object.between(c[1], c[2]);
            case WAY: return object.way(c[1], c[2]);
            case LOOSE: return object.loose(c[1], c[2]);
            case NAME: return object.name(c[1], c[2]);
            case NAME_OF: return object.nameOf(c[1]);
            default: return object.overlap(c[1], c[2]);
        }
    }
}
