/** Each promise by hand: ordinary calls, the edges that the document names, wrong calls. */
public final class PromisesTest {
    private static final int LEAST = Integer.MIN_VALUE;
    private static final int MOST = Integer.MAX_VALUE;
    private static final String OK = "";
    private static final String ARGUMENT = "IllegalArgumentException";
    private static final String STATE = "IllegalStateException";

    private static int wrong = 0;
    private static String where = "";

    /** A call on an object, so that what it throws can be looked at. */
    private interface Call {
        long of(SpaceCycles s);
    }

    public static void main(String[] args) {
        newObject();
        lines();
        linesAlong();
        moves();
        movesKeepDoors();
        doors();
        runs();
        counts();
        ringsOfHoles();
        ringsThroughTouchingPoints();
        sides();
        sizes();
        at();
        neighbours();
        between();
        ways();
        longWays();
        loose();
        reach();
        reachAlong();
        names();
        namesOfSeveral();
        overlaps();
        argumentsBeforeState();
        throwingChangesNothing();
        full();
        System.out.println(wrong == 0 ? "all promises hold" : wrong + " answers are not as due");
        if (wrong != 0) System.exit(1);
    }

    private static void due(SpaceCycles s, long want, String text, Call call) {
        try {
            long got = call.of(s);
            if (got != want) say(text + " answered " + got + ", due is " + want);
        } catch (RuntimeException e) {
            say(text + " threw " + e + ", due is " + want);
        }
    }

    private static void thrown(SpaceCycles s, String want, String text, Call call) {
        String got;
        try {
            got = OK + call.of(s);
        } catch (RuntimeException e) {
            got = e.getClass().getSimpleName();
        }
        if (!got.equals(want)) say(text + " gave " + got + ", due is " + want);
    }

    private static void say(String text) {
        wrong++;
        System.out.println(where + ": " + text);
    }

    private static void answers(long[] got, long... want) {
        if (!java.util.Arrays.equals(got, want)) {
            say("answered " + java.util.Arrays.toString(got) + ", due is " + java.util.Arrays.toString(want));
        }
    }

    /** Four lines, from (x, y) wide and high, all of one thickness: bottom, right, top, left. */
    private static void box(SpaceCycles s, int x, int y, int wide, int high, int thickness) {
        s.line(x, y, x + wide, y, thickness);
        s.line(x + wide, y, x + wide, y + high, thickness);
        s.line(x + wide, y + high, x, y + high, thickness);
        s.line(x, y + high, x, y, thickness);
    }

    private static long[] wholeSide(SpaceCycles s, int space, int ring, int k) {
        long[] all = new long[6];
        for (int what = 0; what < 6; what++) all[what] = s.side(space, ring, k, what);
        return all;
    }

    private static void newObject() {
        where = "promise 1";
        SpaceCycles s = new SpaceCycles();
        thrown(s, STATE, "count before a run", x -> x.count(0));
        thrown(s, ARGUMENT, "no line yet", x -> x.move(0, 0, 0) ? 1 : 0);
        due(s, 0, "run", SpaceCycles::run);
        for (int what = 0; what < 5; what++) {
            int w = what;
            due(s, 0, "count " + w, x -> x.count(w));
        }
        due(s, -1, "at", x -> x.at(250, 250));
    }

    private static void lines() {
        where = "promise 2";
        SpaceCycles s = new SpaceCycles();
        due(s, 0, "the whole width", x -> x.line(0, 0, 500, 0, 60));
        due(s, 1, "from the high end", x -> x.line(500, 500, 500, 0, 0));
        int[][] bad = {
            {-1, 0, 5, 0, 0}, {0, -1, 5, -1, 0}, {0, 501, 5, 501, 0}, {5, 9, -1, 9, 0}, {5, 9, 501, 9, 0},
            {9, 5, 9, -1, 0}, {9, 5, 9, 501, 0}, {501, 5, 501, 9, 0}, {LEAST, 5, MOST, 5, 0},
            {5, 5, 5, 5, 0}, {5, 5, 6, 7, 0}, {5, 9, 8, 9, -1}, {5, 9, 8, 9, -2}, {5, 9, 8, 9, 1},
            {5, 9, 8, 9, 59}, {5, 9, 8, 9, 61}, {5, 9, 8, 9, 62}, {5, 9, 8, 9, LEAST}, {5, 9, 8, 9, MOST},
        };
        for (int[] b : bad) {
            thrown(s, ARGUMENT, java.util.Arrays.toString(b), x -> x.line(b[0], b[1], b[2], b[3], b[4]));
        }
        for (int k = 2; k < 20; k++) {
            int n = k;
            due(s, n, "line " + n, x -> x.line(n, 10, n, 20, 2));
        }
        thrown(s, STATE, "a 21st", x -> x.line(100, 10, 100, 20, 2));
        thrown(s, STATE, "a 21st that lies along another one", x -> x.line(2, 10, 2, 20, 2));
        thrown(s, ARGUMENT, "a wrong 21st", x -> x.line(2, 10, 2, 10, 2));
        due(s, 0, "run", SpaceCycles::run);
        thrown(s, STATE, "a 21st after a run", x -> x.line(100, 10, 100, 20, 2));
        due(s, 0, "the run still holds", x -> x.count(0));
    }

    private static void linesAlong() {
        where = "promise 2, lines along one another";
        SpaceCycles s = new SpaceCycles();
        due(s, 0, "first", x -> x.line(10, 10, 30, 10, 0));
        s.run();
        due(s, -1, "the same", x -> x.line(10, 10, 30, 10, 0));
        due(s, -1, "the same, turned", x -> x.line(30, 10, 10, 10, 4));
        due(s, -1, "within", x -> x.line(11, 10, 12, 10, 0));
        due(s, -1, "around", x -> x.line(0, 10, 40, 10, 0));
        due(s, -1, "one long at the low end", x -> x.line(0, 10, 11, 10, 0));
        due(s, -1, "one long at the high end", x -> x.line(29, 10, 31, 10, 0));
        due(s, 0, "NONE leaves the run", x -> x.count(0));
        due(s, 1, "a point at the low end", x -> x.line(0, 10, 10, 10, 0));
        due(s, 2, "a point at the high end", x -> x.line(30, 10, 31, 10, 0));
        due(s, 3, "apart on the same row", x -> x.line(40, 10, 50, 10, 0));
        due(s, 4, "the next row", x -> x.line(10, 11, 30, 11, 0));
        due(s, 5, "across", x -> x.line(20, 0, 20, 20, 0));
        due(s, -1, "along the one across", x -> x.line(20, 5, 20, 6, 0));
        due(s, 6, "up from its end", x -> x.line(20, 20, 20, 21, 0));
        due(s, 0, "run", SpaceCycles::run);
        due(s, 7, "closes none", x -> x.line(31, 10, 31, 11, 0));
    }

    private static void moves() {
        where = "promise 3";
        SpaceCycles s = new SpaceCycles();
        s.line(10, 10, 30, 10, 0);
        s.line(50, 10, 60, 10, 0);
        s.line(20, 0, 20, 500, 0);
        s.run();
        due(s, 0, "along another one", x -> x.move(1, -21, 0) ? 1 : 0);
        due(s, 0, "that changes nothing", x -> x.count(0));
        due(s, -2, "it is where it was", x -> x.at(60, 10));
        due(s, 1, "to a point of another one", x -> x.move(1, -20, 0) ? 1 : 0);
        thrown(s, STATE, "then no run is fresh", x -> x.count(0));
        s.run();
        due(s, -2, "it went", x -> x.at(40, 10));
        due(s, -1, "from where it was", x -> x.at(41, 10));
        due(s, 1, "over its own old place", x -> x.move(0, -1, 0) ? 1 : 0);
        s.run();
        due(s, 1, "to 0", x -> x.move(0, -9, -10) ? 1 : 0);
        due(s, 1, "to 500", x -> x.move(0, 480, 500) ? 1 : 0);
        s.run();
        int[][] bad = {
            {0, 1, 0}, {0, 0, 1}, {0, -481, 0}, {0, 0, -501}, {2, 0, 1}, {2, 0, -1}, {0, MOST, 0}, {0, LEAST, 0},
            {0, 0, MOST}, {0, 0, LEAST}, {-1, 0, 0}, {3, 0, 0}, {MOST, 0, 0}, {LEAST, 0, 0},
        };
        for (int[] b : bad) {
            thrown(s, ARGUMENT, java.util.Arrays.toString(b), x -> x.move(b[0], b[1], b[2]) ? 1 : 0);
        }
        due(s, 0, "throwing leaves the run", x -> x.count(0));
        due(s, -2, "and the line", x -> x.at(480, 500));
    }

    private static void movesKeepDoors() {
        where = "promise 3, doors";
        SpaceCycles s = new SpaceCycles();
        box(s, 0, 0, 40, 20, 0);
        s.line(20, 20, 20, 0, 0);
        s.door(4, 0, 5);
        s.run();
        due(s, 1, "way", x -> x.way(0, 1));
        s.move(4, -10, 0);
        s.run();
        due(s, 1, "the door went with the line", x -> x.way(0, 1));
        s.move(4, 0, 5);
        s.line(0, 5, 40, 5, 0);
        s.run();
        due(s, 3, "spaces", x -> x.count(0));
        due(s, 1, "from the low end that is now at 5", x -> x.way(1, 2));
        due(s, -2, "and not below", x -> x.way(0, 1));
    }

    private static void doors() {
        where = "promise 4";
        SpaceCycles s = new SpaceCycles();
        s.line(10, 10, 30, 10, 0);
        s.line(10, 40, 10, 20, 0);
        int[][] bad = {
            {0, 5, 5}, {0, 6, 5}, {0, -1, 5}, {0, 0, 21}, {0, 20, 21}, {0, LEAST, MOST}, {0, 0, MOST},
            {1, 0, 21}, {2, 0, 1}, {-1, 0, 1}, {0, 0, 0}, {0, 20, 20}, {0, 20, 0},
        };
        for (int[] b : bad) {
            thrown(s, ARGUMENT, java.util.Arrays.toString(b), x -> x.door(b[0], b[1], b[2]));
        }
        s.run();
        for (int k = 1; k <= 6; k++) {
            due(s, k, "door " + k, x -> x.door(0, 0, 20));
        }
        thrown(s, STATE, "a seventh", x -> x.door(0, 0, 20));
        thrown(s, ARGUMENT, "a wrong seventh", x -> x.door(0, 0, 21));
        due(s, 1, "another line", x -> x.door(1, 19, 20));
        due(s, 0, "doors leave the run", x -> x.count(0));
        s.move(0, 1, 0);
        thrown(s, STATE, "a moved line has its doors", x -> x.door(0, 0, 20));
    }

    private static void runs() {
        where = "promise 5";
        SpaceCycles s = new SpaceCycles();
        due(s, 0, "no lines", SpaceCycles::run);
        box(s, 0, 0, 500, 500, 0);
        for (int k = 2; k <= 100; k++) {
            due(s, 1, "run " + k, SpaceCycles::run);
        }
        s.name(0, 8);
        thrown(s, STATE, "a 101st", SpaceCycles::run);
        due(s, 8, "the 100th holds", x -> x.nameOf(0));
        s.move(0, 0, 1);
        thrown(s, STATE, "a 101st after a move", SpaceCycles::run);
        thrown(s, STATE, "no run is fresh", x -> x.count(0));
    }

    private static void counts() {
        where = "promise 6";
        SpaceCycles s = new SpaceCycles();
        s.line(0, 10, 20, 10, 0);
        s.line(10, 0, 10, 20, 0);
        s.line(20, 10, 30, 10, 0);
        s.line(30, 5, 30, 15, 0);
        s.run();
        answers(new long[] {s.count(0), s.count(1), s.count(2), s.count(3), s.count(4)}, 0, 8, 7, 5, 14);
        thrown(s, ARGUMENT, "-1", x -> x.count(-1));
        thrown(s, ARGUMENT, "5", x -> x.count(5));
        s.line(0, 0, 1, 0, 0);
        thrown(s, STATE, "stale", x -> x.count(4));
        thrown(s, ARGUMENT, "stale and wrong", x -> x.count(5));
    }

    private static void ringsOfHoles() {
        where = "promises 7 to 9, holes";
        SpaceCycles s = new SpaceCycles();
        box(s, 0, 0, 100, 100, 2);
        box(s, 20, 30, 10, 10, 2);
        box(s, 20, 50, 10, 10, 2);
        s.line(10, 90, 15, 90, 2);
        s.line(24, 33, 24, 36, 2);
        due(s, 3, "spaces", SpaceCycles::run);
        answers(new long[] {s.rings(0), s.rings(1), s.rings(2)}, 4, 2, 1);
        answers(new long[] {s.sides(0, 0), s.sides(0, 1), s.sides(0, 2), s.sides(0, 3)}, 4, 2, 4, 4);
        answers(wholeSide(s, 0, 1, 0), 12, 10, 90, 15, 90, 0);
        answers(wholeSide(s, 0, 1, 1), 12, 15, 90, 10, 90, 0);
        answers(wholeSide(s, 0, 2, 0), 7, 20, 30, 20, 40, 1);
        answers(wholeSide(s, 0, 3, 0), 11, 20, 50, 20, 60, 2);
        answers(wholeSide(s, 1, 1, 0), 13, 24, 33, 24, 36, 1);
        answers(wholeSide(s, 1, 1, 1), 13, 24, 36, 24, 33, 1);
        thrown(s, ARGUMENT, "ring 4", x -> x.sides(0, 4));
        thrown(s, ARGUMENT, "ring -1", x -> x.sides(0, -1));
        thrown(s, ARGUMENT, "ring MOST", x -> x.side(0, MOST, 0, 0));
        thrown(s, ARGUMENT, "ring LEAST", x -> x.side(0, LEAST, 0, 0));
        thrown(s, ARGUMENT, "ring 1 of 2", x -> x.sides(2, 1));
        thrown(s, ARGUMENT, "space 3", x -> x.rings(3));
        thrown(s, ARGUMENT, "the outside", x -> x.rings(-1));
        thrown(s, ARGUMENT, "the outside's sides", x -> x.sides(-1, 0));
    }

    private static void ringsThroughTouchingPoints() {
        where = "promises 7 to 9, touching points";
        SpaceCycles s = new SpaceCycles();
        box(s, 0, 0, 40, 40, 0);
        box(s, 40, 40, 10, 10, 0);
        box(s, 0, 0, 10, 10, 0);
        s.line(10, 0, 10, 10, 0);
        s.line(0, 10, 10, 10, 0);
        s.line(20, 10, 10, 10, 0);
        s.line(20, 10, 20, 20, 0);
        s.line(10, 20, 20, 20, 0);
        s.line(10, 10, 10, 20, 0);
        due(s, 4, "spaces", SpaceCycles::run);
        answers(new long[] {s.at(5, 5), s.at(5, 15), s.at(15, 15), s.at(45, 45)}, 0, 1, 2, 3);
        due(s, 1, "a hole that touches the edge is in ring 0", x -> x.rings(1));
        due(s, 10, "it is gone along", x -> x.sides(1, 0));
        answers(wholeSide(s, 1, 0, 0), 9, 0, 10, 10, 10, 0);
        answers(wholeSide(s, 1, 0, 1), 13, 10, 10, 10, 20, 2);
        answers(wholeSide(s, 1, 0, 2), 12, 10, 20, 20, 20, 2);
        answers(wholeSide(s, 1, 0, 3), 11, 20, 20, 20, 10, 2);
        answers(wholeSide(s, 1, 0, 4), 10, 20, 10, 10, 10, 2);
        answers(wholeSide(s, 1, 0, 5), 8, 10, 10, 10, 0, 0);
        answers(wholeSide(s, 1, 0, 9), 3, 0, 40, 0, 10, -1);
        due(s, 10, "sides of the outside", x -> x.count(4));
        due(s, -2, "touching is no neighbour", x -> x.neighbour(3, 1));
    }

    private static void sides() {
        where = "promise 9";
        SpaceCycles s = new SpaceCycles();
        box(s, 0, 0, 10, 10, 0);
        s.line(4, 0, 4, 5, 0);
        s.run();
        due(s, 7, "sides", x -> x.sides(0, 0));
        answers(wholeSide(s, 0, 0, 0), 0, 0, 0, 4, 0, -1);
        answers(wholeSide(s, 0, 0, 1), 4, 4, 0, 4, 5, 0);
        answers(wholeSide(s, 0, 0, 2), 4, 4, 5, 4, 0, 0);
        answers(wholeSide(s, 0, 0, 3), 0, 4, 0, 10, 0, -1);
        answers(wholeSide(s, 0, 0, 6), 3, 0, 10, 0, 0, -1);
        int[][] bad = {
            {-1, 0, 0, 0}, {1, 0, 0, 0}, {0, -1, 0, 0}, {0, 1, 0, 0}, {0, 0, -1, 0}, {0, 0, 7, 0},
            {0, 0, 0, -1}, {0, 0, 0, 6}, {0, 0, MOST, 0}, {0, 0, LEAST, 0}, {0, 0, 0, MOST}, {MOST, 0, 0, 0},
        };
        for (int[] b : bad) {
            thrown(s, ARGUMENT, java.util.Arrays.toString(b), x -> x.side(b[0], b[1], b[2], b[3]));
        }
        s.line(4, 5, 4, 10, 0);
        due(s, 2, "spaces", SpaceCycles::run);
        answers(wholeSide(s, 0, 0, 1), 4, 4, 0, 4, 5, 1);
        answers(wholeSide(s, 0, 0, 2), 5, 4, 5, 4, 10, 1);
    }

    private static void sizes() {
        where = "promise 10";
        SpaceCycles s = new SpaceCycles();
        s.line(0, 0, 100, 0, 2);
        s.line(100, 0, 100, 50, 4);
        s.line(100, 50, 0, 50, 6);
        s.line(0, 50, 0, 0, 8);
        s.line(20, 25, 40, 25, 10);
        box(s, 60, 10, 10, 20, 60);
        s.run();
        answers(new long[] {s.size(0, 0), s.size(0, 1), s.size(0, 2)},
                4800, 400, 4800 - 100 - 100 - 300 - 200 - 200 - 1800);
        answers(new long[] {s.size(1, 0), s.size(1, 1), s.size(1, 2)}, 200, 60, 200 - 1800);
        thrown(s, ARGUMENT, "what 3", x -> x.size(0, 3));
        thrown(s, ARGUMENT, "what -1", x -> x.size(0, -1));
        thrown(s, ARGUMENT, "space 2", x -> x.size(2, 0));
        thrown(s, ARGUMENT, "the outside", x -> x.size(-1, 0));
    }

    private static void at() {
        where = "promise 11";
        SpaceCycles s = new SpaceCycles();
        box(s, 10, 10, 20, 20, 60);
        s.line(20, 15, 20, 18, 0);
        s.line(100, 100, 110, 100, 0);
        s.run();
        answers(new long[] {s.at(11, 11), s.at(29, 29), s.at(10, 10), s.at(30, 20), s.at(20, 18), s.at(20, 19),
            s.at(20, 14), s.at(25, 15), s.at(9, 10), s.at(31, 30), s.at(15, 100), s.at(0, 0), s.at(500, 500)},
                0, 0, -2, -2, -2, 0, 0, 0, -1, -1, -1, -1, -1);
        int[][] bad = {{-1, 0}, {0, -1}, {501, 0}, {0, 501}, {MOST, MOST}, {LEAST, LEAST}};
        for (int[] b : bad) {
            thrown(s, ARGUMENT, java.util.Arrays.toString(b), x -> x.at(b[0], b[1]));
        }
    }

    private static void neighbours() {
        where = "promise 12";
        SpaceCycles s = new SpaceCycles();
        box(s, 0, 0, 100, 100, 2);
        box(s, 20, 20, 60, 60, 2);
        s.line(50, 20, 50, 80, 2);
        s.line(5, 5, 9, 5, 2);
        s.run();
        answers(new long[] {s.neighbour(0, 0), s.neighbour(0, 1), s.neighbour(0, 2), s.neighbour(0, 3)}, -1, 1, 2, -2);
        answers(new long[] {s.neighbour(1, 0), s.neighbour(1, 1), s.neighbour(1, 2), s.neighbour(1, MOST)}, 0, 2, -2, -2);
        thrown(s, ARGUMENT, "k -1", x -> x.neighbour(0, -1));
        thrown(s, ARGUMENT, "k LEAST", x -> x.neighbour(0, LEAST));
        thrown(s, ARGUMENT, "space 3", x -> x.neighbour(3, 0));
        thrown(s, ARGUMENT, "the outside", x -> x.neighbour(-1, 0));
    }

    private static void between() {
        where = "promise 13";
        SpaceCycles s = new SpaceCycles();
        box(s, 0, 0, 40, 20, 2);
        s.line(20, 0, 20, 12, 2);
        s.line(20, 12, 20, 20, 2);
        s.line(5, 5, 5, 9, 2);
        s.line(5, 20, 5, 14, 2);
        s.run();
        answers(new long[] {s.between(0, 1), s.between(1, 0), s.between(0, -1), s.between(1, -1),
            s.between(0, 0), s.between(1, 1)}, 20, 20, 60, 60, 10, 0);
        thrown(s, ARGUMENT, "the outside first", x -> x.between(-1, 0));
        thrown(s, ARGUMENT, "other 2", x -> x.between(0, 2));
        thrown(s, ARGUMENT, "other -2", x -> x.between(0, -2));
        thrown(s, ARGUMENT, "space 2", x -> x.between(2, 0));
    }

    private static void ways() {
        where = "promise 14";
        SpaceCycles s = new SpaceCycles();
        thrown(s, ARGUMENT, "the outside before a run", x -> x.way(-1, -1));
        box(s, 0, 0, 40, 10, 0);
        s.line(10, 0, 10, 10, 0);
        s.line(20, 0, 20, 10, 0);
        s.line(30, 0, 30, 10, 0);
        s.run();
        answers(new long[] {s.way(0, 0), s.way(-1, -1), s.way(0, 1), s.way(0, -1)}, 0, 0, -2, -2);
        s.door(4, 0, 1);
        s.door(5, 9, 10);
        s.door(6, 3, 4);
        answers(new long[] {s.way(0, 1), s.way(0, 2), s.way(0, 3), s.way(3, 0), s.way(0, -1)}, 1, 2, 3, 3, -2);
        s.door(0, 0, 10);
        answers(new long[] {s.way(0, -1), s.way(1, -1), s.way(-1, 3)}, 1, 2, 4);
        s.door(0, 30, 31);
        answers(new long[] {s.way(0, 3), s.way(1, 3), s.way(3, -1)}, 2, 2, 1);
        s.door(0, 19, 21);
        answers(new long[] {s.way(1, -1), s.way(2, -1), s.way(1, 3)}, 1, 1, 2);
        int[][] bad = {{-2, 0}, {0, -2}, {4, 0}, {0, 4}, {MOST, 0}, {0, LEAST}};
        for (int[] b : bad) {
            thrown(s, ARGUMENT, java.util.Arrays.toString(b), x -> x.way(b[0], b[1]));
        }
        s.move(6, 1, 0);
        thrown(s, STATE, "stale", x -> x.way(-1, -1));
    }

    private static void longWays() {
        where = "promise 14, long ways";
        SpaceCycles s = new SpaceCycles();
        box(s, 0, 0, 170, 10, 0);
        for (int k = 1; k < 17; k++) {
            s.line(10 * k, 10, 10 * k, 0, 0);
            s.door(3 + k, 0, 10);
        }
        due(s, 17, "spaces", SpaceCycles::run);
        answers(new long[] {s.way(0, 16), s.way(16, 0), s.way(16, 5), s.way(16, -1)}, 16, 16, 11, -2);
        s.door(3, 0, 10);
        answers(new long[] {s.way(16, -1), s.way(-1, 16)}, 17, 17);
    }

    private static void loose() {
        where = "promise 15";
        SpaceCycles s = new SpaceCycles();
        thrown(s, STATE, "no run", x -> x.loose(0, 0));
        thrown(s, ARGUMENT, "no run, k -1", x -> x.loose(-1, 0));
        thrown(s, ARGUMENT, "no run, what 4", x -> x.loose(0, 4));
        s.line(50, 50, 10, 50, 0);
        s.line(10, 20, 10, 10, 0);
        s.line(50, 50, 50, 80, 0);
        s.line(50, 80, 50, 90, 0);
        s.line(100, 0, 100, 50, 0);
        s.line(90, 20, 100, 20, 0);
        s.run();
        due(s, 7, "loose ends", x -> x.count(3));
        long[][] want = {{1, 10, 10, -1}, {1, 10, 20, 30}, {0, 10, 50, -1}, {3, 50, 90, -1}, {5, 90, 20, 80},
            {4, 100, 0, -1}, {4, 100, 50, -1}};
        for (int k = 0; k < want.length; k++) {
            answers(new long[] {s.loose(k, 0), s.loose(k, 1), s.loose(k, 2), s.loose(k, 3)}, want[k]);
        }
        int[][] bad = {{7, 0}, {-1, 0}, {0, -1}, {0, 4}, {MOST, 0}, {LEAST, 0}, {0, MOST}};
        for (int[] b : bad) {
            thrown(s, ARGUMENT, java.util.Arrays.toString(b), x -> x.loose(b[0], b[1]));
        }
        s.line(200, 200, 200, 201, 0);
        thrown(s, STATE, "a line came: before a missing one", x -> x.loose(99, 0));
        thrown(s, ARGUMENT, "k -1 before that", x -> x.loose(-1, 0));
        thrown(s, ARGUMENT, "what 4 before that", x -> x.loose(99, 4));
        s.run();
        s.move(0, 0, 0);
        thrown(s, STATE, "a line was moved, if by nothing", x -> x.loose(0, 0));
    }

    private static void reach() {
        where = "promise 15, reach";
        SpaceCycles s = new SpaceCycles();
        s.line(100, 100, 120, 100, 0);
        s.line(130, 100, 140, 100, 0);
        s.line(150, 100, 150, 120, 0);
        s.line(90, 80, 90, 100, 0);
        s.line(110, 110, 110, 130, 0);
        s.line(100, 140, 120, 140, 0);
        s.line(80, 150, 500, 150, 0);
        s.run();
        int[] reaches = new int[s.count(3)];
        for (int k = 0; k < reaches.length; k++) reaches[k] = s.loose(k, 3);
        long[] got = new long[reaches.length];
        for (int k = 0; k < got.length; k++) got[k] = s.loose(k, 1) * 1000000L + s.loose(k, 2) * 1000L + reaches[k];
        answers(got, 80149999L, 90079999L, 90100050L, 100100010L, 100139999L, 110110010L, 110130010L,
                120100010L, 120139999L, 130100010L, 140100010L, 150099999L, 150120030L, 500149999L);
    }

    private static void reachAlong() {
        where = "promise 15, reach to a line along the same one";
        SpaceCycles s = new SpaceCycles();
        s.line(100, 10, 100, 20, 0);
        s.line(100, 27, 100, 30, 0);
        s.line(10, 100, 20, 100, 0);
        s.line(27, 100, 30, 100, 0);
        s.run();
        long[] got = new long[s.count(3)];
        for (int k = 0; k < got.length; k++) got[k] = s.loose(k, 3);
        answers(got, -1, 7, 7, -1, -1, 7, 7, -1);
    }

    private static void names() {
        where = "promises 16 and 17";
        SpaceCycles s = new SpaceCycles();
        box(s, 0, 0, 40, 10, 0);
        s.line(10, 0, 10, 10, 0);
        s.run();
        due(s, 0, "no name", x -> x.nameOf(0));
        due(s, 0, "had none", x -> x.name(0, 1000));
        due(s, 1000, "had it", x -> x.name(0, 1));
        due(s, 1, "it has", x -> x.nameOf(0));
        due(s, 0, "the other one", x -> x.name(1, 1));
        thrown(s, ARGUMENT, "1001", x -> x.name(0, 1001));
        thrown(s, ARGUMENT, "-1", x -> x.name(0, -1));
        thrown(s, ARGUMENT, "LEAST", x -> x.name(0, LEAST));
        thrown(s, ARGUMENT, "space 2", x -> x.name(2, 5));
        thrown(s, ARGUMENT, "the outside", x -> x.name(-1, 5));
        thrown(s, ARGUMENT, "space 2", x -> x.nameOf(2));
        thrown(s, ARGUMENT, "the outside", x -> x.nameOf(-1));
        due(s, 1, "none", x -> x.name(0, 0));
        due(s, 0, "then none", x -> x.nameOf(0));
        s.run();
        answers(new long[] {s.nameOf(0), s.nameOf(1)}, 0, 1);
        s.move(4, 5, 5);
        thrown(s, STATE, "stale", x -> x.name(0, 5));
        thrown(s, ARGUMENT, "stale and wrong", x -> x.name(0, 1001));
        s.run();
        answers(new long[] {s.count(0), s.nameOf(0)}, 1, 1);
        s.move(0, 0, 200);
        s.run();
        due(s, 0, "no spaces", x -> x.count(0));
        s.move(0, 0, -200);
        s.run();
        due(s, 0, "its name is gone", x -> x.nameOf(0));
    }

    private static void namesOfSeveral() {
        where = "names, several";
        SpaceCycles s = new SpaceCycles();
        box(s, 0, 0, 60, 10, 0);
        s.line(10, 0, 10, 10, 0);
        s.line(30, 0, 30, 10, 0);
        s.line(40, 0, 40, 10, 0);
        s.run();
        for (int k = 0; k < 4; k++) s.name(k, 11 + k);
        s.move(4, 0, 100);
        s.move(5, 0, 100);
        s.move(6, 0, 100);
        s.run();
        answers(new long[] {s.count(0), s.nameOf(0)}, 1, 12);
        s.move(5, 0, -100);
        s.run();
        answers(new long[] {s.count(0), s.nameOf(0), s.nameOf(1)}, 2, 12, 0);
        s.name(1, 13);
        s.move(5, -20, 0);
        s.run();
        answers(new long[] {s.nameOf(0), s.nameOf(1)}, 0, 13);
        s.name(0, 14);
        s.move(5, -5, 0);
        s.run();
        answers(new long[] {s.nameOf(0), s.nameOf(1)}, 14, 13);
    }

    private static void overlaps() {
        where = "promise 18";
        SpaceCycles s = new SpaceCycles();
        box(s, 0, 0, 40, 40, 0);
        box(s, 10, 10, 10, 10, 0);
        s.run();
        answers(new long[] {s.overlap(0, 0), s.overlap(1, 1), s.overlap(MOST, 0)}, 0, 0, 0);
        s.run();
        answers(new long[] {s.overlap(0, 0), s.overlap(1, 1), s.overlap(0, 1), s.overlap(2, 0)}, 1500, 100, 0, 0);
        for (int k = 4; k < 8; k++) s.move(k, 5, 3);
        s.run();
        answers(new long[] {s.overlap(0, 0), s.overlap(0, 1), s.overlap(1, 0), s.overlap(1, 1)}, 1435, 65, 65, 35);
        thrown(s, ARGUMENT, "old -1", x -> x.overlap(-1, 0));
        thrown(s, ARGUMENT, "space 2", x -> x.overlap(0, 2));
        thrown(s, ARGUMENT, "space -1", x -> x.overlap(0, -1));
        s.move(0, 0, 100);
        thrown(s, STATE, "stale", x -> x.overlap(0, 0));
        thrown(s, ARGUMENT, "stale and wrong", x -> x.overlap(LEAST, 0));
        s.run();
        answers(new long[] {s.count(0), s.overlap(0, 0), s.overlap(1, 0)}, 1, 0, 100);
    }

    private static void argumentsBeforeState() {
        where = "the first exception named";
        SpaceCycles s = new SpaceCycles();
        box(s, 0, 0, 40, 40, 0);
        s.run();
        s.line(20, 0, 20, 40, 0);
        Call[] stale = {x -> x.rings(0), x -> x.sides(0, 0), x -> x.side(0, 0, 3, 5), x -> x.size(0, 2),
            x -> x.at(0, 0), x -> x.neighbour(0, 0), x -> x.between(0, -1), x -> x.way(-1, 0), x -> x.loose(0, 0),
            x -> x.name(0, 1), x -> x.nameOf(0), x -> x.overlap(0, 0), x -> x.count(0)};
        Call[] bad = {x -> x.rings(1), x -> x.sides(0, 1), x -> x.side(0, 0, 4, 5), x -> x.size(1, 2),
            x -> x.at(0, 501), x -> x.neighbour(1, 0), x -> x.between(0, 1), x -> x.way(-1, 1), x -> x.loose(0, 4),
            x -> x.name(1, 1), x -> x.nameOf(1), x -> x.overlap(0, 1), x -> x.count(5)};
        for (int k = 0; k < stale.length; k++) {
            thrown(s, STATE, "stale call " + k, stale[k]);
            thrown(s, ARGUMENT, "wrong call " + k, bad[k]);
        }
    }

    private static void throwingChangesNothing() {
        where = "a call that throws changes nothing";
        SpaceCycles s = new SpaceCycles();
        box(s, 0, 0, 40, 40, 0);
        s.run();
        s.name(0, 4);
        thrown(s, ARGUMENT, "line", x -> x.line(0, 0, 1, 1, 0));
        thrown(s, ARGUMENT, "move", x -> x.move(0, 461, 0) ? 1 : 0);
        thrown(s, ARGUMENT, "door", x -> x.door(0, 1, 1));
        thrown(s, ARGUMENT, "name", x -> x.name(0, -1));
        answers(new long[] {s.count(0), s.nameOf(0), s.way(0, -1), s.size(0, 0), s.door(0, 0, 40)}, 1, 4, -2, 1600, 1);
    }

    private static void full() {
        where = "the most of everything";
        SpaceCycles s = new SpaceCycles();
        for (int k = 0; k < 10; k++) {
            s.line(10 + 5 * k, k, 10 + 5 * k, 400 + k, 60);
            s.line(k, 10 + 5 * k, 400 + k, 10 + 5 * k, 60);
        }
        for (int line = 0; line < 20; line++) {
            for (int d = 0; d < 6; d++) s.door(line, d * 10, 400);
        }
        due(s, 81, "spaces", SpaceCycles::run);
        answers(new long[] {s.count(1), s.count(2), s.count(3), s.count(4)}, 140, 220, 40, 36 + 80);
        answers(new long[] {s.way(0, 80), s.way(0, -1), s.way(40, -1), s.size(80, 2)}, 2, 1, 5, 25 - 600);
        for (int k = 0; k < 81; k++) s.name(k, 900 + k);
        for (int line = 0; line < 20; line++) s.move(line, 1, 0);
        due(s, 81, "spaces", SpaceCycles::run);
        for (int k = 0; k < 81; k++) {
            answers(new long[] {s.nameOf(k), s.overlap(k, k)}, 900 + k, 20);
        }
    }
}
