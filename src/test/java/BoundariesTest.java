/** The sentences of the promises that name a boundary: a test for each. */
public final class BoundariesTest extends Sentences {
    public static void main(String[] args) {
        runAll(BoundariesTest.class);
    }

    /** The most that 20 lines can close in: 81 spaces; lines 0, 2, .. stand, 1, 3, .. lie. */
    private static SpaceCycles full() {
        SpaceCycles s = new SpaceCycles();
        for (int k = 0; k < 10; k++) {
            s.line(10 + 5 * k, k, 10 + 5 * k, 400 + k, 60);
            s.line(k, 10 + 5 * k, 400 + k, 10 + 5 * k, 60);
        }
        return s;
    }

    @Says("Promise 1: No lines.")
    static void anEmptyObject() {
        SpaceCycles s = new SpaceCycles();
        due(ARGUMENT, () -> moved(s, 0, 0, 0), () -> s.door(0, 0, 1));
        due(0, s::run, s::run);
        row(counts(s), 0, 0, 0, 0, 0);
        due(NONE, () -> s.at(0, 0), () -> s.at(500, 500), () -> s.at(0, 500), () -> s.at(500, 0));
        due(0, () -> s.way(NONE, NONE));
        due(ARGUMENT, () -> s.rings(0), () -> s.sides(0, 0), () -> s.side(0, 0, 0, 0), () -> s.size(0, 0),
            () -> s.neighbour(0, 0), () -> s.between(0, NONE), () -> s.way(0, NONE), () -> s.loose(0, 0),
            () -> s.name(0, 1), () -> s.nameOf(0), () -> s.overlap(0, 0));
    }

    @Says("Promise 1: No lines, whatever other objects have.")
    static void objectsShareNothing() {
        SpaceCycles first = rooms(20, 10);
        first.name(0, 5);
        SpaceCycles second = new SpaceCycles();
        due(0, second::run);
        due(0, () -> second.line(0, 0, 9, 0, 0));
        row(of(first.count(0), first.nameOf(0), first.size(0, 0)), 2, 5, 100);
    }

    @Says("Promise 2: NONE, changing nothing, if it would have more than a point in common with another one along it.")
    static void aLineThatIsRefused() {
        SpaceCycles s = rooms(20, 10);
        s.name(0, 5);
        String before = picture(s);
        due(NONE, () -> s.line(0, 0, 20, 0, 2), () -> s.line(19, 0, 30, 0, 2), () -> s.line(10, 9, 10, 20, 2), () -> s.line(10, 5, 10, 4, 2));
        same(picture(s), before);
        due(5, () -> s.line(20, 0, 30, 0, 2));
        due(6, () -> s.line(10, 10, 10, 20, 2));
        due(7, () -> s.line(0, 5, 20, 5, 2));
    }

    @Says("Promise 2: more than a point in common with another one along it: the last of 20 lines, too, is another one")
    static void aLineAlongAnyOther() {
        SpaceCycles s = new SpaceCycles();
        for (int k = 0; k < 19; k++) {
            int x = 10 * k;
            s.line(x, 10, x, 20, 0);
            due(NONE, () -> s.line(x, 19, x, 21, 0));
        }
        due(0, () -> moved(s, 0, 180, 0), () -> moved(s, 18, -180, 0), () -> moved(s, 0, 180, 9), () -> moved(s, 0, 180, -9));
        due(1, () -> moved(s, 0, 180, 10));
    }

    @Says("Promise 2: Illegal argument: also if both ends are one")
    static void aLineWithoutLength() {
        SpaceCycles s = new SpaceCycles();
        due(ARGUMENT, () -> s.line(0, 0, 0, 0, 0), () -> s.line(500, 500, 500, 500, 0), () -> s.line(3, 4, 3, 4, 2));
        due(0, () -> s.line(3, 4, 3, 5, 2));
        due(ARGUMENT, () -> s.line(3, 4, 3, 4, 2));
    }

    @Says("Promise 2: or the line stands askew")
    static void aLineAskew() {
        SpaceCycles s = new SpaceCycles();
        due(ARGUMENT, () -> s.line(0, 0, 1, 1, 0), () -> s.line(1, 0, 0, 1, 0), () -> s.line(0, 0, 500, 1, 0), () -> s.line(0, 0, 1, 500, 0));
    }

    @Says("Promise 2: illegal state: there are 20 (only that).")
    static void aStoreyFullOfLines() {
        SpaceCycles s = new SpaceCycles();
        for (int k = 0; k < 19; k++) s.line(10 * k, 0, 10 * k, 10, 0);
        s.run();
        due(19, () -> s.line(0, 0, 180, 0, 0));
        due(STATE, () -> s.line(0, 10, 180, 10, 0), () -> s.line(0, 0, 0, 5, 0));
        due(0, s::run);
        due(STATE, () -> s.line(0, 10, 180, 10, 0));
        due(0, () -> s.count(0));
        due(19, () -> s.count(3));
    }

    @Says("Promise 2: illegal state (only that): before, between and after all runs a line may come")
    static void linesComeInEveryState() {
        SpaceCycles s = new SpaceCycles();
        due(0, () -> s.line(0, 0, 10, 0, 0));
        for (int k = 1; k <= 100; k++) due(0, s::run);
        due(1, () -> s.line(0, 1, 10, 1, 0));
        due(2, () -> s.line(0, 2, 10, 2, 0));
        due(STATE, () -> s.count(0), s::run);
    }

    @Says("Promise 3: A line is moved: whether it is")
    static void aLineGoes() {
        SpaceCycles s = rooms(20, 10);
        due(1, () -> moved(s, 4, 5, 0));
        due(2, s::run);
        row(of(s.size(0, 0), s.size(1, 0), s.at(15, 5), s.at(10, 5)), 150, 50, -2, 0);
        due(1, () -> moved(s, 4, -10, 0));
        due(2, s::run);
        row(of(s.size(0, 0), s.size(1, 0)), 50, 150);
    }

    @Says("Promise 3: A line is moved: also by nothing, and over where it is itself")
    static void aLineGoesALittle() {
        SpaceCycles s = rooms(20, 10);
        due(1, () -> moved(s, 4, 0, 0), () -> moved(s, 4, 0, 1), () -> moved(s, 4, 0, -1), () -> moved(s, 0, 1, 0), () -> moved(s, 0, -1, 0));
        due(2, s::run);
    }

    @Says("Promise 3: (not, if it would have more than a point in common with another one along it)")
    static void aLineThatStays() {
        SpaceCycles s = rooms(20, 10);
        s.line(40, 0, 40, 10, 0);
        s.line(50, 0, 60, 0, 0);
        s.run();
        String before = picture(s);
        due(0, () -> moved(s, 4, -10, 0), () -> moved(s, 5, -20, 9), () -> moved(s, 5, -30, 0), () -> moved(s, 6, -31, 0), () -> moved(s, 6, -50, 10));
        same(picture(s), before);
        due(1, () -> moved(s, 5, -20, 10), () -> moved(s, 6, -30, 0));
        due(2, s::run);
        row(of(s.count(3), s.at(20, 20), s.at(30, 0)), 2, -2, -2);
    }

    @Says("Promise 3: Its doors move with it.")
    static void doorsGoAlong() {
        SpaceCycles s = rooms(30, 10);
        s.line(0, 5, 30, 5, 0);
        s.door(4, 0, 5);
        due(4, s::run);
        row(of(s.way(0, 2), s.way(1, 3)), 1, -2);
        due(1, () -> moved(s, 4, 10, 0));
        due(4, s::run);
        row(of(s.way(0, 2), s.way(1, 3)), 1, -2);
        due(1, () -> moved(s, 4, 0, 5));
        due(3, s::run);
        row(of(s.at(5, 2), s.at(5, 7), s.at(25, 7)), 0, 1, 2);
        row(of(s.way(1, 2), s.way(0, 1)), 1, -2);
        for (int k = 2; k <= 6; k++) due(k, () -> s.door(4, 0, 1));
        due(1, () -> moved(s, 4, 0, -5));
        due(STATE, () -> s.door(4, 0, 1));
    }

    @Says("Promise 3: Illegal argument: also if it would come out of 0 .. 500.")
    static void aLineAtTheRim() {
        SpaceCycles s = drawn(new int[] {10, 20, 30, 20}, new int[] {100, 40, 100, 70});
        due(ARGUMENT, () -> moved(s, 0, -11, 0), () -> moved(s, 0, 471, 0), () -> moved(s, 0, 0, -21), () -> moved(s, 0, 0, 481),
            () -> moved(s, 1, -101, 0), () -> moved(s, 1, 401, 0), () -> moved(s, 1, 0, -41), () -> moved(s, 1, 0, 431));
        due(0, () -> s.count(0));
        due(1, () -> moved(s, 0, -10, -20), () -> moved(s, 0, 480, 500), () -> moved(s, 1, -100, -40), () -> moved(s, 1, 500, 470));
        s.run();
        row(of(s.at(480, 500), s.at(500, 470), s.at(500, 469), s.at(479, 500)), -2, -2, NONE, NONE);
        due(ARGUMENT, () -> moved(s, 0, 1, 0), () -> moved(s, 0, 0, 1), () -> moved(s, 1, 1, 0), () -> moved(s, 1, 0, 1));
    }

    @Says("Promise 3: out of 0 .. 500, where the sum would wrap around")
    static void aLineThatWraps() {
        SpaceCycles s = drawn(new int[] {480, 500, 500, 500});
        due(ARGUMENT, () -> moved(s, 0, MOST, 0), () -> moved(s, 0, LEAST, 0), () -> moved(s, 0, 0, MOST), () -> moved(s, 0, 0, LEAST),
            () -> moved(s, 0, MOST, MOST), () -> moved(s, 0, LEAST, LEAST), () -> moved(s, 0, LEAST, MOST), () -> moved(s, 0, MOST - 479, 0));
        due(0, () -> s.count(0));
    }

    @Says("Promise 3: Illegal argument: there is no such line")
    static void noLineToMove() {
        SpaceCycles s = drawn(new int[] {10, 20, 30, 20});
        due(ARGUMENT, () -> moved(s, 1, 0, 0), () -> moved(s, -1, 0, 0), () -> moved(s, 20, 0, 0), () -> moved(s, LEAST, 0, 0), () -> moved(s, MOST, 0, 0));
        due(1, () -> moved(s, 0, 0, 0));
    }

    @Says("Promise 3: throws IllegalArgumentException alone: a line is moved in every state")
    static void linesMoveInEveryState() {
        SpaceCycles s = new SpaceCycles();
        s.line(10, 10, 20, 10, 0);
        due(1, () -> moved(s, 0, 1, 1));
        for (int k = 1; k <= 100; k++) s.run();
        due(1, () -> moved(s, 0, 1, 1));
        due(1, () -> moved(s, 0, 1, 1));
    }

    @Says("Promise 4: A door in a line: how many it has.")
    static void doorsAreCounted() {
        SpaceCycles s = drawn(new int[] {0, 0, 10, 0}, new int[] {0, 9, 10, 9});
        for (int k = 1; k <= 6; k++) {
            int from = k;
            due(k, () -> s.door(0, from, 10));
        }
        for (int k = 1; k <= 6; k++) due(k, () -> s.door(1, 3, 4));
    }

    @Says("Promise 4: Illegal argument: from is not below to")
    static void doorsWithoutLength() {
        SpaceCycles s = drawn(new int[] {0, 0, 10, 0});
        due(ARGUMENT, () -> s.door(0, 0, 0), () -> s.door(0, 10, 10), () -> s.door(0, 5, 4), () -> s.door(0, 10, 0), () -> s.door(0, 5, 5));
        due(1, () -> s.door(0, 4, 5));
        due(2, () -> s.door(0, 0, 1));
        due(3, () -> s.door(0, 9, 10));
    }

    @Says("Promise 4: or they are not 0 .. the line's length")
    static void doorsBeyondTheLine() {
        SpaceCycles s = drawn(new int[] {100, 100, 110, 100}, new int[] {300, 400, 300, 390}, new int[] {0, 0, 500, 0});
        due(ARGUMENT, () -> s.door(0, -1, 5), () -> s.door(0, 5, 11), () -> s.door(0, -1, 11), () -> s.door(0, 10, 11), () -> s.door(0, -2, -1),
            () -> s.door(1, -1, 10), () -> s.door(1, 0, 11), () -> s.door(2, 0, 501), () -> s.door(2, -1, 500));
        due(ARGUMENT, () -> s.door(0, LEAST, MOST), () -> s.door(0, LEAST, 5), () -> s.door(0, 5, MOST), () -> s.door(0, MOST, LEAST));
        due(1, () -> s.door(0, 0, 10), () -> s.door(1, 0, 10), () -> s.door(2, 0, 500));
    }

    @Says("Promise 4: Illegal argument: there is no such line")
    static void noLineForADoor() {
        SpaceCycles s = drawn(new int[] {0, 0, 10, 0});
        due(ARGUMENT, () -> s.door(1, 0, 1), () -> s.door(-1, 0, 1), () -> s.door(20, 0, 1), () -> s.door(LEAST, 0, 1), () -> s.door(MOST, 0, 1));
    }

    @Says("Promise 4: illegal state: it has 6 (only that).")
    static void aLineFullOfDoors() {
        SpaceCycles s = new SpaceCycles();
        s.line(0, 0, 10, 0, 0);
        s.line(0, 5, 10, 5, 0);
        for (int k = 1; k <= 3; k++) due(k, () -> s.door(0, 0, 10));
        s.run();
        for (int k = 4; k <= 6; k++) due(k, () -> s.door(0, 0, 10));
        due(STATE, () -> s.door(0, 0, 10), () -> s.door(0, 0, 1));
        s.move(1, 0, 1);
        due(1, () -> s.door(1, 0, 10));
        due(STATE, () -> s.door(0, 0, 10));
    }

    @Says("Promise 4: a door that is there after the run is gone through")
    static void doorsNeedNoRun() {
        SpaceCycles s = rooms(20, 10);
        due(-2, () -> s.way(0, 1));
        due(1, () -> s.door(4, 9, 10));
        due(1, () -> s.way(0, 1));
    }

    @Says("Promise 4: all of 6 doors of all of 20 lines are gone through")
    static void theLastDoors() {
        SpaceCycles s = new SpaceCycles();
        box(s, 0, 0, 170, 60);
        for (int k = 1; k <= 15; k++) s.line(10 * k, 0, 10 * k, 60, 0);
        s.line(0, 50, 170, 50, 0);
        due(32, s::run);
        for (int line = 4; line < 19; line++) {
            for (int d = 0; d < 5; d++) s.door(line, 0, 1);
            s.door(line, 59, 60);
        }
        row(of(s.way(1, 31), s.way(0, 30), s.way(0, 1)), 15, 15, -2);
        for (int d = 0; d < 5; d++) s.door(19, 0, 1);
        row(of(s.way(0, 1), s.way(30, 31)), 1, 31);
        s.door(19, 169, 170);
        row(of(s.way(0, 1), s.way(30, 31), s.way(0, 31)), 1, 1, 16);
    }

    @Says("Promise 5: A run: how many spaces there are.")
    static void spacesOfARun() {
        due(0, () -> new SpaceCycles().run(), () -> drawn(new int[] {0, 0, 1, 0}).run());
        due(1, () -> rooms(1).run());
        due(81, () -> full().run());
        due(17, () -> rooms(17, 1, 2, 3, 4, 5, 6, 7, 8, 9, 10, 11, 12, 13, 14, 15, 16).run());
    }

    @Says("Promise 5: Illegal state: there were 100 (only that).")
    static void theLastRun() {
        SpaceCycles s = new SpaceCycles();
        for (int k = 1; k <= 50; k++) due(0, s::run);
        box(s, 0, 0, 10, 10);
        for (int k = 51; k <= 99; k++) due(1, s::run);
        s.name(0, 3);
        s.line(5, 0, 5, 10, 0);
        due(2, s::run);
        due(STATE, s::run);
        row(of(s.count(0), s.nameOf(0), s.nameOf(1), s.overlap(0, 1)), 2, 3, 0, 50);
        s.move(4, 0, 1);
        due(STATE, s::run, () -> s.count(0));
    }

    @Says("Promise 6: what = 0 spaces, 1 points, 2 pieces, 3 loose ends, 4 sides of the outside")
    static void theMostOfAll() {
        SpaceCycles s = full();
        s.run();
        row(counts(s), 81, 140, 220, 40, 36 + 80);
        row(counts(rooms(20, 10)), 2, 6, 7, 0, 6);
    }

    @Says("Promise 6: points, pieces and loose ends of 20 lines with ends at 40 different x, or at 40 different y")
    static void endsAtDifferentPlaces() {
        SpaceCycles lying = new SpaceCycles();
        SpaceCycles standing = new SpaceCycles();
        for (int k = 0; k < 20; k++) {
            lying.line(20 + k, 10 + k, 200 + k, 10 + k, 0);
            standing.line(10 + k, 20 + k, 10 + k, 200 + k, 0);
        }
        for (SpaceCycles s : new SpaceCycles[] {lying, standing}) {
            for (int turn = 0; turn < 3; turn++) {
                due(0, s::run);
                row(counts(s), 0, 40, 20, 40, 40);
                row(looseEnd(s, 39), 19, s == lying ? 219 : 29, s == lying ? 29 : 219, NONE);
                for (int line = 0; line < 20; line++) s.move(line, s == lying ? 50 : 0, s == lying ? 0 : 50);
                s.run();
                for (int line = 0; line < 20; line++) s.move(line, s == lying ? -50 : 0, s == lying ? 0 : -50);
            }
        }
    }

    @Says("Promise 6: Illegal argument")
    static void countsOfNothing() {
        SpaceCycles s = rooms(10);
        due(ARGUMENT, () -> s.count(-1), () -> s.count(5), () -> s.count(LEAST), () -> s.count(MOST));
    }

    @Says("Promise 6: sides of the outside: of all its rings, both sides of a line within it, none of what is closed in")
    static void sidesOfTheOutside() {
        SpaceCycles s = new SpaceCycles();
        box(s, 0, 0, 40, 40);
        box(s, 10, 10, 10, 10);
        box(s, 100, 100, 10, 10);
        s.line(200, 200, 200, 201, 0);
        s.line(30, 30, 31, 30, 0);
        s.run();
        due(4 + 4 + 2, () -> s.count(4));
    }

    @Says("Promise 6: sides of the outside: also of the first line, and of the last")
    static void sidesOfTheOutsideOfEachLine() {
        SpaceCycles s = drawn(new int[] {0, 10, 10, 10}, new int[] {0, 0, 0, 10}, new int[] {10, 0, 10, 10}, new int[] {0, 0, 10, 0});
        row(counts(s), 1, 4, 4, 0, 4);
    }

    @Says("Promise 7: How many rings a space has.")
    static void ringsOfOneAndOfMany() {
        due(1, () -> rooms(10).rings(0));
        SpaceCycles s = new SpaceCycles();
        box(s, 0, 0, 100, 100);
        for (int k = 0; k < 16; k++) s.line(10 + 2 * k, 50, 11 + 2 * k, 50, 0);
        s.run();
        row(of(s.rings(0), s.sides(0, 0), s.sides(0, 1), s.sides(0, 16)), 17, 4, 2, 2);
        row(course(s, 0, 16, 1), 41, 50, 40, 50);
        due(ARGUMENT, () -> s.sides(0, 17), () -> s.side(0, 17, 0, 0));
    }

    @Says("Promise 7: Illegal argument")
    static void ringsOfNoSpace() {
        SpaceCycles s = rooms(20, 10);
        due(1, () -> s.rings(1));
        due(ARGUMENT, () -> s.rings(2), () -> s.rings(NONE), () -> s.rings(-2), () -> s.rings(LEAST), () -> s.rings(MOST), () -> s.rings(81));
    }

    @Says("Promise 8: How many sides a ring has.")
    static void fewSidesAndMany() {
        SpaceCycles s = new SpaceCycles();
        box(s, 0, 0, 100, 100);
        for (int k = 1; k <= 15; k++) s.line(5 * k, 0, 5 * k, 50, 0);
        s.line(90, 50, 91, 50, 0);
        s.run();
        row(of(s.sides(0, 0), s.sides(0, 1)), 4 + 3 * 15, 2);
    }

    @Says("Promise 8: Illegal argument")
    static void sidesOfNoRing() {
        SpaceCycles s = rooms(20, 10);
        s.line(5, 5, 6, 5, 0);
        s.run();
        due(2, () -> s.sides(0, 1));
        due(4, () -> s.sides(1, 0));
        due(ARGUMENT, () -> s.sides(0, 2), () -> s.sides(0, -1), () -> s.sides(1, 1), () -> s.sides(2, 0), () -> s.sides(NONE, 0),
            () -> s.sides(0, LEAST), () -> s.sides(0, MOST), () -> s.sides(LEAST, 0), () -> s.sides(MOST, 0));
    }

    @Says("Promise 9: 0 its line, 1 and 2 the point where it begins, 3 and 4 where it ends, 5 what is on its right hand")
    static void whatASideTells() {
        SpaceCycles s = rooms(20, 10);
        long[] got = new long[6];
        for (int what = 0; what < 6; what++) got[what] = s.side(0, 0, 1, what);
        row(got, 4, 10, 0, 10, 10, 1);
        for (int what = 0; what < 6; what++) got[what] = s.side(1, 0, 3, what);
        row(got, 4, 10, 10, 10, 0, 0);
        for (int what = 0; what < 6; what++) got[what] = s.side(0, 0, 3, what);
        row(got, 3, 0, 10, 0, 0, NONE);
    }

    @Says("Promise 9: Illegal argument: no such side")
    static void sidesThatAreNot() {
        SpaceCycles s = rooms(20, 10);
        s.line(5, 5, 6, 5, 0);
        s.run();
        due(3, () -> s.side(0, 0, 3, 0));
        due(5, () -> s.side(0, 1, 1, 0));
        due(ARGUMENT, () -> s.side(0, 0, 4, 0), () -> s.side(0, 0, -1, 0), () -> s.side(0, 1, 2, 0), () -> s.side(0, 1, -1, 0),
            () -> s.side(0, 0, LEAST, 0), () -> s.side(0, 0, MOST, 0));
    }

    @Says("Promise 9: Illegal argument: what is out of its bounds, no such ring, no such space")
    static void sidesOfNothing() {
        SpaceCycles s = rooms(20, 10);
        due(ARGUMENT, () -> s.side(0, 0, 0, -1), () -> s.side(0, 0, 0, 6), () -> s.side(0, 0, 0, LEAST), () -> s.side(0, 0, 0, MOST));
        due(ARGUMENT, () -> s.side(0, 1, 0, 0), () -> s.side(0, -1, 0, 0), () -> s.side(0, LEAST, 0, 0), () -> s.side(0, MOST, 0, 0));
        due(ARGUMENT, () -> s.side(2, 0, 0, 0), () -> s.side(NONE, 0, 0, 0), () -> s.side(LEAST, 0, 0, 0), () -> s.side(MOST, 0, 0, 0));
    }

    @Says("Promise 10: what = 0 its AREA, 1 its EDGE, 2 its NET area")
    static void whatSizesTell() {
        SpaceCycles s = full();
        s.run();
        row(of(s.size(80, 0), s.size(80, 1), s.size(80, 2)), 25, 20, 25 - 600);
    }

    @Says("Promise 10: Illegal argument")
    static void sizesOfNothing() {
        SpaceCycles s = rooms(20, 10);
        due(ARGUMENT, () -> s.size(0, -1), () -> s.size(0, 3), () -> s.size(0, LEAST), () -> s.size(0, MOST));
        due(ARGUMENT, () -> s.size(2, 0), () -> s.size(NONE, 0), () -> s.size(LEAST, 0), () -> s.size(MOST, 0));
    }

    @Says("Promise 11: In which space a point is; NONE for the outside")
    static void pointsInSpaces() {
        SpaceCycles s = new SpaceCycles();
        box(s, 1, 1, 498, 498);
        s.line(100, 1, 100, 499, 60);
        s.run();
        due(NONE, () -> s.at(0, 0), () -> s.at(500, 500), () -> s.at(0, 500), () -> s.at(500, 0), () -> s.at(0, 250), () -> s.at(250, 500));
        due(0, () -> s.at(2, 2), () -> s.at(99, 498), () -> s.at(99, 2), () -> s.at(50, 50));
        due(1, () -> s.at(101, 2), () -> s.at(498, 498), () -> s.at(250, 250));
    }

    @Says("Promise 11: -2 if it is on a line")
    static void pointsOnLines() {
        SpaceCycles s = drawn(new int[] {0, 0, 500, 0}, new int[] {500, 0, 500, 500}, new int[] {500, 500, 0, 500},
            new int[] {0, 500, 0, 0}, new int[] {100, 100, 110, 100});
        due(-2, () -> s.at(0, 0), () -> s.at(500, 500), () -> s.at(0, 500), () -> s.at(500, 0), () -> s.at(0, 250), () -> s.at(250, 500),
            () -> s.at(100, 100), () -> s.at(105, 100), () -> s.at(110, 100));
        due(0, () -> s.at(99, 100), () -> s.at(111, 100), () -> s.at(105, 101), () -> s.at(105, 99), () -> s.at(1, 100), () -> s.at(100, 1));
    }

    @Says("Promise 11: Illegal argument")
    static void pointsBeyondTheRim() {
        SpaceCycles s = rooms(10);
        due(ARGUMENT, () -> s.at(-1, 5), () -> s.at(5, -1), () -> s.at(501, 5), () -> s.at(5, 501), () -> s.at(LEAST, 5), () -> s.at(5, LEAST),
            () -> s.at(MOST, 5), () -> s.at(5, MOST));
    }

    @Says("Promise 12: The k-th neighbour of a space (by numbers, the outside first); -2 if it has no more.")
    static void neighboursInTheirOrder() {
        SpaceCycles s = rooms(40, 10, 20, 30);
        row(of(s.neighbour(1, 0), s.neighbour(1, 1), s.neighbour(1, 2), s.neighbour(1, 3), s.neighbour(1, MOST)), NONE, 0, 2, -2, -2);
        row(of(s.neighbour(3, 0), s.neighbour(3, 1), s.neighbour(3, 2)), NONE, 2, -2);
        SpaceCycles most = full();
        most.run();
        row(of(most.neighbour(40, 0), most.neighbour(40, 1), most.neighbour(40, 2), most.neighbour(40, 3), most.neighbour(40, 4)), 31, 39, 41, 49, -2);
        row(of(most.neighbour(80, 0), most.neighbour(80, 1), most.neighbour(80, 2), most.neighbour(80, 3)), NONE, 71, 79, -2);
    }

    @Says("Promise 12: neighbours with the first line between them, and those of the last space")
    static void neighboursAcrossTheFirstLine() {
        SpaceCycles s = drawn(new int[] {0, 10, 30, 10}, new int[] {0, 0, 0, 20}, new int[] {30, 0, 30, 20}, new int[] {0, 0, 30, 0}, new int[] {0, 20, 30, 20});
        row(of(s.neighbour(0, 0), s.neighbour(0, 1), s.neighbour(0, 2)), NONE, 1, -2);
        row(of(s.neighbour(1, 0), s.neighbour(1, 1), s.neighbour(1, 2)), NONE, 0, -2);
        SpaceCycles most = full();
        most.run();
        row(of(most.neighbour(79, 0), most.neighbour(79, 1), most.neighbour(79, 2), most.neighbour(79, 3), most.neighbour(79, 4)), NONE, 70, 78, 80, -2);
    }

    @Says("Promise 12: Illegal argument: also if k is below 0")
    static void neighboursBelowZero() {
        SpaceCycles s = rooms(20, 10);
        due(ARGUMENT, () -> s.neighbour(0, -1), () -> s.neighbour(0, -2), () -> s.neighbour(0, LEAST));
        due(ARGUMENT, () -> s.neighbour(2, 0), () -> s.neighbour(NONE, 0), () -> s.neighbour(LEAST, 0), () -> s.neighbour(MOST, 0));
    }

    @Says("Promise 13: How long the pieces between a space and another one (NONE: the outside) are together")
    static void lengthsBetween() {
        SpaceCycles s = rooms(40, 10, 20);
        s.line(0, 5, 10, 5, 0);
        s.run();
        row(of(s.at(5, 2), s.at(5, 7), s.at(15, 5), s.at(30, 5)), 0, 1, 2, 3);
        row(of(s.between(2, 0), s.between(2, 1), s.between(2, 3), s.between(2, NONE), s.between(0, 3)), 5, 5, 10, 20, 0);
        SpaceCycles inner = new SpaceCycles();
        box(inner, 0, 0, 500, 500);
        box(inner, 1, 1, 498, 498);
        inner.run();
        row(of(inner.between(0, NONE), inner.between(0, 1), inner.between(1, 0), inner.between(1, NONE)), 2000, 1992, 1992, 0);
    }

    @Says("Promise 13: for one with itself those that have it on both sides")
    static void lengthsWithinASpace() {
        SpaceCycles s = rooms(20, 10);
        row(of(s.between(0, 0), s.between(1, 1)), 0, 0);
        s.line(5, 0, 5, 7, 0);
        s.line(2, 3, 3, 3, 0);
        s.line(12, 5, 14, 5, 0);
        s.line(30, 0, 30, 10, 0);
        s.run();
        row(of(s.between(0, 0), s.between(1, 1)), 8, 2);
    }

    @Says("Promise 13: Illegal argument")
    static void lengthsOfNothing() {
        SpaceCycles s = rooms(20, 10);
        due(ARGUMENT, () -> s.between(2, 0), () -> s.between(NONE, 0), () -> s.between(LEAST, 0), () -> s.between(MOST, 0));
        due(ARGUMENT, () -> s.between(0, 2), () -> s.between(0, -2), () -> s.between(0, LEAST), () -> s.between(0, MOST));
    }

    @Says("Promise 14: Through how many doors one must go at least")
    static void shortestWays() {
        SpaceCycles s = rooms(40, 10, 20, 30);
        s.door(4, 0, 10);
        s.door(5, 0, 10);
        s.door(5, 0, 10);
        s.door(6, 0, 1);
        row(of(s.way(0, 0), s.way(0, 1), s.way(0, 2), s.way(0, 3), s.way(3, 0)), 0, 1, 2, 3, 3);
        SpaceCycles most = full();
        for (int line = 0; line < 20; line++) most.door(line, 0, 400);
        most.run();
        row(of(most.way(0, 80), most.way(40, NONE), most.way(36, 44), most.way(40, 44)), 2, 5, 2, 4);
    }

    @Says("Promise 14: at least: also if a longer way is met first")
    static void shorterWaysThatAreMetLate() {
        for (int wall = 0; wall <= 2; wall += 2) {
            SpaceCycles s = rooms(40, 30, 20, 10);
            for (int line = 4; line <= 6; line++) s.door(line, 0, 10);
            row(of(s.way(3, 0), s.way(0, 3)), 3, 3);
            s.door(wall, 0, 1);
            s.door(wall, 39, 40);
            row(of(s.way(3, 0), s.way(0, 3), s.way(2, 0), s.way(3, 1)), 2, 2, 2, 2);
        }
    }

    @Says("Promise 14: Through how many doors one must go: a long door joins what is across it, not what is side by side")
    static void waysTwiceThroughADoor() {
        SpaceCycles s = drawn(new int[] {0, 0, 20, 0}, new int[] {20, 0, 20, 10}, new int[] {0, 10, 20, 10},
            new int[] {0, 0, 0, 10}, new int[] {0, 5, 20, 5}, new int[] {10, 5, 10, 10});
        row(of(s.at(5, 2), s.at(5, 7), s.at(15, 7)), 0, 1, 2);
        s.door(4, 9, 11);
        row(of(s.way(0, 1), s.way(0, 2), s.way(1, 2)), 1, 1, 2);
        s.door(5, 4, 5);
        due(1, () -> s.way(1, 2));
    }

    @Says("Promise 14: a door stays where it is on its line when new lines cut it")
    static void waysAfterANewCut() {
        SpaceCycles s = rooms(20, 10);
        s.door(4, 1, 2);
        row(of(s.way(0, 1), s.way(0, NONE)), 1, -2);
        s.line(0, 5, 20, 5, 0);
        due(4, s::run);
        row(of(s.way(0, 2), s.way(1, 3), s.way(0, 1), s.way(0, NONE), s.way(1, NONE)), 1, -2, -2, -2, -2);
    }

    @Says("Promise 14: the longest way: through all spaces one after another")
    static void theLongestWay() {
        SpaceCycles s = full();
        s.run();
        // Standing lines have doors in turn at the top and at the bottom row; lying ones all along.
        for (int k = 1; k < 9; k++) {
            int row = k % 2 == 1 ? 8 : 0;
            s.door(2 * k, 10 + 5 * row - k, 15 + 5 * row - k);
            s.door(2 * k + 1, 10 - k, 55 - k);
        }
        row(of(s.way(0, 80), s.way(80, 0), s.way(0, 8), s.way(0, 9), s.way(0, NONE)), 80, 80, 8, 17, -2);
    }

    @Says("Promise 14: from a space to another one (NONE for either: the outside)")
    static void waysOfTheOutside() {
        SpaceCycles s = rooms(20, 10);
        s.door(0, 0, 1);
        s.door(4, 0, 1);
        row(of(s.way(NONE, 0), s.way(0, NONE), s.way(NONE, 1), s.way(1, NONE), s.way(NONE, NONE)), 1, 1, 2, 2, 0);
    }

    @Says("Promise 14: also over the outside")
    static void waysOverTheOutside() {
        SpaceCycles s = rooms(40, 10, 20, 30);
        for (int line = 4; line <= 6; line++) s.door(line, 0, 10);
        due(3, () -> s.way(0, 3));
        s.door(0, 0, 1);
        s.door(2, 39, 40);
        row(of(s.way(0, 3), s.way(1, 3), s.way(1, 2)), 2, 2, 1);
    }

    @Says("Promise 14: -2 if there is no way")
    static void noWays() {
        SpaceCycles s = rooms(30, 10, 20);
        due(-2, () -> s.way(0, 1), () -> s.way(1, 0), () -> s.way(0, NONE), () -> s.way(NONE, 2));
        s.door(4, 0, 10);
        due(-2, () -> s.way(0, 2), () -> s.way(2, 1), () -> s.way(1, NONE));
    }

    @Says("Promise 14: Illegal argument (before the first run the outside is none, too)")
    static void waysBeforeTheFirstRun() {
        SpaceCycles s = new SpaceCycles();
        due(ARGUMENT, () -> s.way(NONE, NONE), () -> s.way(NONE, 0), () -> s.way(0, NONE), () -> s.way(0, 0));
        s.line(0, 0, 1, 0, 0);
        due(ARGUMENT, () -> s.way(NONE, NONE));
        s.run();
        due(0, () -> s.way(NONE, NONE));
        due(ARGUMENT, () -> s.way(NONE, 0), () -> s.way(0, NONE));
        s.line(0, 1, 1, 1, 0);
        due(STATE, () -> s.way(NONE, NONE));
    }

    @Says("Promise 14: Illegal argument")
    static void waysOfNothing() {
        SpaceCycles s = rooms(20, 10);
        due(ARGUMENT, () -> s.way(2, 0), () -> s.way(-2, 0), () -> s.way(LEAST, 0), () -> s.way(MOST, 0),
            () -> s.way(0, 2), () -> s.way(0, -2), () -> s.way(0, LEAST), () -> s.way(0, MOST), () -> s.way(2, 2));
    }

    @Says("Promise 15: what = 0 its line, 1 its x, 2 its y, 3 its REACH, NONE for none")
    static void whatLooseEndsTell() {
        SpaceCycles s = drawn(new int[] {10, 20, 30, 20}, new int[] {35, 7, 35, 40});
        row(looseEnd(s, 0), 0, 10, 20, NONE);
        row(looseEnd(s, 1), 0, 30, 20, 5);
        row(looseEnd(s, 2), 1, 35, 7, NONE);
        row(looseEnd(s, 3), 1, 35, 40, NONE);
    }

    @Says("Promise 15: Illegal argument: k is below 0, or what is out of its bounds")
    static void looseEndsBelowZero() {
        SpaceCycles s = new SpaceCycles();
        for (int state = 0; state < 3; state++) {
            due(ARGUMENT, () -> s.loose(-1, 0), () -> s.loose(LEAST, 0), () -> s.loose(0, -1), () -> s.loose(0, 4), () -> s.loose(0, LEAST),
                () -> s.loose(0, MOST), () -> s.loose(MOST, 4), () -> s.loose(-1, 4));
            if (state == 0) due(0, s::run);
            if (state == 1) due(0, () -> s.line(0, 0, 1, 0, 0));
        }
    }

    @Says("Promise 15: illegal state: there was no run, or a line moved since")
    static void looseEndsInAWrongState() {
        SpaceCycles s = new SpaceCycles();
        due(STATE, () -> s.loose(0, 0), () -> s.loose(MOST, 3));
        s.line(0, 0, 1, 0, 0);
        due(STATE, () -> s.loose(0, 0), () -> s.loose(MOST, 3));
        s.run();
        due(0, () -> s.loose(0, 0));
        s.move(0, 1, 1);
        due(STATE, () -> s.loose(0, 0), () -> s.loose(1, 3), () -> s.loose(2, 0), () -> s.loose(MOST, 3));
    }

    @Says("Promise 15: illegal argument: there is no loose end k")
    static void looseEndsThatAreNot() {
        SpaceCycles s = drawn(new int[] {0, 0, 1, 0});
        due(0, () -> s.loose(0, 0), () -> s.loose(1, 0));
        due(ARGUMENT, () -> s.loose(2, 0), () -> s.loose(MOST, 0), () -> s.loose(40, 3));
        due(ARGUMENT, () -> rooms(10).loose(0, 0), () -> drawn().loose(0, 0));
        SpaceCycles most = full();
        most.run();
        row(of(most.loose(0, 0), most.loose(39, 0), most.loose(39, 1), most.loose(39, 2)), 1, 19, 409, 55);
        due(ARGUMENT, () -> most.loose(40, 0));
    }

    @Says("Promise 16: A name for a space, or none (0): which it had.")
    static void namesGivenAndTaken() {
        SpaceCycles s = rooms(20, 10);
        due(0, () -> s.name(0, 0), () -> s.name(0, 8));
        due(8, () -> s.name(0, 8), () -> s.name(0, 0));
        due(0, () -> s.name(0, 9), () -> s.name(1, 9));
        row(of(s.nameOf(0), s.nameOf(1)), 9, 9);
        s.name(0, 0);
        s.run();
        row(of(s.nameOf(0), s.nameOf(1)), 0, 9);
    }

    @Says("Promise 16: Illegal argument")
    static void namesOfNothing() {
        SpaceCycles s = rooms(20, 10);
        due(ARGUMENT, () -> s.name(0, -1), () -> s.name(0, 1001), () -> s.name(0, LEAST), () -> s.name(0, MOST));
        due(ARGUMENT, () -> s.name(2, 1), () -> s.name(NONE, 1), () -> s.name(LEAST, 1), () -> s.name(MOST, 1));
        row(of(s.nameOf(0), s.nameOf(1)), 0, 0);
    }

    @Says("Promise 17: Which name a space has.")
    static void namesOfAll() {
        SpaceCycles s = full();
        s.run();
        for (int k = 0; k < 81; k++) {
            int space = k;
            due(0, () -> s.nameOf(space), () -> s.name(space, 1000 - space));
        }
        for (int line = 0; line < 20; line++) s.move(line, 2, 2);
        s.run();
        for (int k = 0; k < 81; k++) {
            int space = k;
            due(1000 - k, () -> s.nameOf(space));
        }
    }

    @Says("Promise 17: Illegal argument")
    static void namesOfNoSpace() {
        SpaceCycles s = rooms(20, 10);
        due(ARGUMENT, () -> s.nameOf(2), () -> s.nameOf(NONE), () -> s.nameOf(-2), () -> s.nameOf(81), () -> s.nameOf(LEAST), () -> s.nameOf(MOST));
    }

    @Says("Promise 18: The area that a space of the run before the latest one has in common with a space now")
    static void areasInCommon() {
        SpaceCycles s = rooms(20, 10);
        s.move(4, 3, 0);
        s.run();
        row(of(s.overlap(0, 0), s.overlap(0, 1), s.overlap(1, 0), s.overlap(1, 1)), 100, 0, 30, 70);
        s.run();
        row(of(s.overlap(0, 0), s.overlap(0, 1), s.overlap(1, 0), s.overlap(1, 1)), 130, 0, 0, 70);
        s.move(4, 0, 1);
        s.run();
        row(of(s.overlap(0, 0), s.overlap(1, 0)), 130, 70);
        s.move(4, 0, -1);
        s.run();
        row(of(s.overlap(0, 0), s.overlap(0, 1), s.overlap(1, 0), s.overlap(1, 1)), 130, 70, 0, 0);
    }

    @Says("Promise 18: area in common: the greatest, one of a single unit, and none with what was outside")
    static void areasInCommonAtTheirBounds() {
        SpaceCycles s = new SpaceCycles();
        box(s, 0, 0, 500, 500);
        s.run();
        s.run();
        due(250000, () -> s.overlap(0, 0));
        s.line(499, 499, 500, 499, 0);
        s.line(499, 499, 499, 500, 0);
        s.run();
        row(of(s.count(0), s.overlap(0, 0), s.overlap(0, 1)), 2, 249999, 1);
        SpaceCycles corner = new SpaceCycles();
        box(corner, 0, 0, 10, 10);
        corner.run();
        for (int line = 0; line < 4; line++) corner.move(line, 9, 9);
        corner.run();
        due(1, () -> corner.overlap(0, 0));
        for (int line = 0; line < 4; line++) corner.move(line, 10, 0);
        corner.run();
        due(0, () -> corner.overlap(0, 0));
    }

    @Says("Promise 18: of the run before the latest one: not of those before it")
    static void areasAreNotHeaped() {
        SpaceCycles s = rooms(40, 10, 20, 30);
        for (int k = 0; k < 3; k++) {
            s.run();
            row(of(s.overlap(0, 0), s.overlap(2, 2), s.overlap(3, 3), s.overlap(3, 2)), 100, 100, 100, 0);
        }
    }

    @Says("Promise 18: area in common: in a storey that was, and is, cut in the most places")
    static void areasBehindManyCuts() {
        SpaceCycles s = new SpaceCycles();
        box(s, 400, 400, 10, 10);
        for (int k = 0; k < 8; k++) {
            s.line(4 * k, 5 + k, 4 * k + 2, 5 + k, 0);
            s.line(300 + 4 * k, 300 + k, 300 + 4 * k + 2, 300 + k, 0);
        }
        s.run();
        for (int line = 4; line < 20; line++) s.move(line, 1, 0);
        s.run();
        due(100, () -> s.overlap(0, 0));
        s.run();
        due(100, () -> s.overlap(0, 0));
        SpaceCycles turned = new SpaceCycles();
        box(turned, 400, 400, 10, 10);
        for (int k = 0; k < 16; k++) turned.line(5 + k, 4 * k, 5 + k, 4 * k + 2, 0);
        turned.run();
        for (int line = 4; line < 20; line++) turned.move(line, 0, 1);
        turned.run();
        due(100, () -> turned.overlap(0, 0));
        turned.run();
        due(100, () -> turned.overlap(0, 0));
    }

    @Says("Promise 18: 0 if there was no such space")
    static void oldSpacesThatWereNot() {
        SpaceCycles s = rooms(20, 10);
        due(0, () -> s.overlap(0, 0), () -> s.overlap(1, 1), () -> s.overlap(MOST, 0));
        s.move(4, 0, 1);
        s.run();
        row(of(s.overlap(0, 0), s.overlap(1, 0), s.overlap(2, 0), s.overlap(81, 0), s.overlap(MOST, 0)), 100, 100, 0, 0, 0);
        s.move(4, 0, -1);
        s.run();
        row(of(s.overlap(0, 1), s.overlap(1, 1)), 100, 0);
    }

    @Says("Promise 18: Illegal argument: old is below 0, no such space")
    static void overlapsOfNothing() {
        SpaceCycles s = rooms(20, 10);
        s.move(4, 0, 1);
        s.run();
        due(ARGUMENT, () -> s.overlap(-1, 0), () -> s.overlap(LEAST, 0), () -> s.overlap(-1, 1));
        due(ARGUMENT, () -> s.overlap(0, 1), () -> s.overlap(1, 1), () -> s.overlap(0, NONE), () -> s.overlap(0, LEAST), () -> s.overlap(0, MOST));
    }
}
