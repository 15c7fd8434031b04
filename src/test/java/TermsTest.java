/** The sentences under 'What it is' and 'Terms' that name a boundary: a test for each. */
public final class TermsTest extends Sentences {
    public static void main(String[] args) {
        runAll(TermsTest.class);
    }

    @Says("An object is used for at most 512 calls after it has been made")
    static void theLastCall() {
        SpaceCycles s = new SpaceCycles();
        box(s, 0, 0, 500, 500);
        due(1, s::run);
        due(0, () -> s.name(0, 7));
        for (int k = 7; k <= 412; k++) due(0, () -> s.at(1, 499));
        for (int k = 413; k <= 511; k++) due(1, s::run);
        due(7, () -> s.nameOf(0));
    }

    @Says("NONE = -1: There is none; the outside.")
    static void none() {
        due(-1, () -> SpaceCycles.NONE);
    }

    @Says("LINES are 0, 1, .. as they come, 20 at most")
    static void numbersOfLines() {
        SpaceCycles s = new SpaceCycles();
        for (int k = 0; k < 20; k++) {
            int x = 5 * k;
            due(ARGUMENT, () -> s.line(x, 1, x, 1, 0));
            due(k, () -> s.line(x, 1, x, 9, 0));
            if (k < 19) due(NONE, () -> s.line(x, 2, x, 3, 0));
        }
        due(STATE, () -> s.line(400, 1, 400, 9, 0), () -> s.line(0, 0, 1, 0, 0));
    }

    @Says("from one point to another one with the same x or the same y")
    static void ends() {
        SpaceCycles s = new SpaceCycles();
        due(0, () -> s.line(7, 0, 7, 1, 0));
        due(1, () -> s.line(8, 7, 7, 7, 0));
        due(2, () -> s.line(0, 500, 500, 500, 0));
        due(3, () -> s.line(500, 500, 500, 0, 0));
        due(ARGUMENT, () -> s.line(5, 5, 6, 6, 0), () -> s.line(5, 5, 4, 6, 0), () -> s.line(5, 5, 500, 6, 0),
            () -> s.line(5, 5, 6, 500, 0), () -> s.line(0, 500, 500, 0, 0));
    }

    @Says("x and y of points are 0 .. 500")
    static void placesOfPoints() {
        SpaceCycles s = new SpaceCycles();
        due(ARGUMENT, () -> s.line(-1, 5, 9, 5, 0), () -> s.line(501, 5, 9, 5, 0), () -> s.line(9, 5, -1, 5, 0),
            () -> s.line(9, 5, 501, 5, 0), () -> s.line(5, -1, 5, 9, 0), () -> s.line(5, 501, 5, 9, 0),
            () -> s.line(5, 9, 5, -1, 0), () -> s.line(5, 9, 5, 501, 0), () -> s.line(-1, 5, -1, 9, 0),
            () -> s.line(501, 5, 501, 9, 0), () -> s.line(5, -1, 9, -1, 0), () -> s.line(5, 501, 9, 501, 0));
        due(0, () -> s.line(0, 0, 500, 0, 0));
        due(1, () -> s.line(500, 0, 500, 500, 0));
        due(2, () -> s.line(500, 500, 0, 500, 0));
        due(3, () -> s.line(0, 500, 0, 0, 0));
    }

    @Says("x and y of points are 0 .. 500, where a wrong number would wrap around")
    static void placesThatWrap() {
        SpaceCycles s = new SpaceCycles();
        due(ARGUMENT, () -> s.line(LEAST, 5, MOST, 5, 0), () -> s.line(MOST, 5, LEAST, 5, 0),
            () -> s.line(5, LEAST, 5, MOST, 0), () -> s.line(5, MOST, 5, LEAST, 0), () -> s.line(LEAST, LEAST, 0, LEAST, 0));
    }

    @Says("its LOW END is that with the lesser x or y")
    static void lowEnds() {
        int[][] box = {{0, 0, 40, 0}, {0, 20, 40, 20}, {0, 0, 0, 20}, {40, 0, 40, 20}};
        SpaceCycles up = drawn(box[0], box[1], box[2], box[3], new int[] {0, 10, 40, 10}, new int[] {20, 0, 20, 20});
        SpaceCycles down = drawn(box[0], box[1], box[2], box[3], new int[] {40, 10, 0, 10}, new int[] {20, 20, 20, 0});
        for (SpaceCycles s : new SpaceCycles[] {up, down}) {
            s.door(4, 0, 20);
            row(of(s.way(0, 1), s.way(2, 3)), 1, -2);
            s.door(5, 0, 10);
            row(of(s.way(0, 2), s.way(1, 2), s.way(1, 3)), 1, 2, -2);
        }
    }

    @Says("Each has a THICKNESS (0 .. 60, even)")
    static void thicknesses() {
        SpaceCycles s = new SpaceCycles();
        due(0, () -> s.line(0, 0, 9, 0, 0));
        due(1, () -> s.line(0, 1, 9, 1, 2));
        due(2, () -> s.line(0, 2, 9, 2, 58));
        due(3, () -> s.line(0, 3, 9, 3, 60));
        due(ARGUMENT, () -> s.line(0, 4, 9, 4, -1), () -> s.line(0, 4, 9, 4, -2), () -> s.line(0, 4, 9, 4, 62),
            () -> s.line(0, 4, 9, 4, 61), () -> s.line(0, 4, 9, 4, LEAST), () -> s.line(0, 4, 9, 4, MOST));
        due(ARGUMENT, () -> s.line(0, 4, 9, 4, 1), () -> s.line(0, 4, 9, 4, 3), () -> s.line(0, 4, 9, 4, 59));
    }

    @Says("Lines that lie along one another never have more than one point in common.")
    static void linesAlongOneAnother() {
        SpaceCycles s = new SpaceCycles();
        due(0, () -> s.line(10, 50, 20, 50, 0));
        due(1, () -> s.line(50, 10, 50, 20, 0));
        due(NONE, () -> s.line(0, 50, 11, 50, 0), () -> s.line(19, 50, 30, 50, 0), () -> s.line(14, 50, 15, 50, 0),
            () -> s.line(0, 50, 500, 50, 0), () -> s.line(20, 50, 10, 50, 60), () -> s.line(10, 50, 11, 50, 0));
        due(NONE, () -> s.line(50, 0, 50, 11, 0), () -> s.line(50, 19, 50, 30, 0), () -> s.line(50, 14, 50, 15, 0),
            () -> s.line(50, 0, 50, 500, 0), () -> s.line(50, 20, 50, 10, 60), () -> s.line(50, 19, 50, 20, 0));
        due(2, () -> s.line(0, 50, 10, 50, 0));
        due(3, () -> s.line(30, 50, 20, 50, 0));
        due(4, () -> s.line(50, 0, 50, 10, 0));
        due(5, () -> s.line(50, 30, 50, 20, 0));
        due(6, () -> s.line(15, 0, 15, 500, 0));
        due(7, () -> s.line(0, 15, 500, 15, 0));
    }

    @Says("A RUN looks at all lines.")
    static void aRunSeesAll() {
        SpaceCycles s = rooms(400);
        for (int k = 1; k <= 16; k++) {
            int x = 20 * k;
            s.line(x, 0, x, 10, 0);
            due(k + 1, s::run);
        }
        due(1, () -> moved(s, 0, 0, 20));
        due(0, s::run);
        due(1, () -> moved(s, 0, 0, -20));
        due(17, s::run);
    }

    @Says("A RUN looks at all lines: nothing of an earlier run stays")
    static void aRunForgetsOlderOnes() {
        SpaceCycles s = new SpaceCycles();
        for (int k = 0; k < 10; k++) {
            s.line(10 + 5 * k, k, 10 + 5 * k, 400 + k, 60);
            s.line(k, 10 + 5 * k, 400 + k, 10 + 5 * k, 60);
        }
        for (int turn = 0; turn < 4; turn++) {
            due(81, s::run);
            row(counts(s), 81, 140, 220, 40, 36 + 80);
            row(of(s.rings(80), s.sides(80, 0), s.side(80, 0, 3, 0), s.size(80, 0)), 1, 4, 16, 25);
            for (int line = 0; line < 20; line += 2) s.move(line, 0, 91);
            due(0, s::run);
            row(counts(s), 0, 40, 20, 40, 40);
            for (int line = 0; line < 20; line += 2) s.move(line, 0, -91);
        }
    }

    @Says("A RUN looks at all lines: on the last of 100 runs as on the first")
    static void theLastRunIsLikeTheFirst() {
        SpaceCycles s = rooms(20, 10);
        s.line(12, 5, 13, 5, 0);
        s.run();
        String early = picture(s);
        for (int k = 3; k <= 100; k++) due(2, s::run);
        same(picture(s), early);
        row(of(s.rings(1), s.sides(1, 1), s.side(1, 1, 1, 0), s.side(1, 0, 3, 5)), 2, 2, 5, 0);
    }

    @Says("POINTS are lines' ends, and where lines meet.")
    static void points() {
        due(0, () -> drawn().count(1));
        due(2, () -> drawn(new int[] {0, 0, 1, 0}).count(1));
        due(4, () -> drawn(new int[] {0, 10, 20, 10}, new int[] {10, 11, 10, 20}).count(1));
        due(4, () -> drawn(new int[] {0, 10, 20, 10}, new int[] {10, 10, 10, 20}).count(1));
        due(5, () -> drawn(new int[] {0, 10, 20, 10}, new int[] {10, 9, 10, 20}).count(1));
        due(3, () -> drawn(new int[] {0, 10, 20, 10}, new int[] {20, 10, 20, 20}).count(1));
        due(3, () -> drawn(new int[] {0, 10, 20, 10}, new int[] {20, 10, 30, 10}).count(1));
        due(5, () -> drawn(new int[] {0, 10, 10, 10}, new int[] {10, 10, 20, 10}, new int[] {10, 0, 10, 20}).count(1));
        due(5, () -> drawn(new int[] {0, 10, 10, 10}, new int[] {10, 10, 20, 10},
            new int[] {10, 0, 10, 10}, new int[] {10, 10, 10, 20}).count(1));
    }

    @Says("PIECES are lines' parts between points that follow one another on them.")
    static void pieces() {
        due(0, () -> drawn().count(2));
        due(1, () -> drawn(new int[] {0, 0, 1, 0}).count(2));
        due(2, () -> drawn(new int[] {0, 10, 20, 10}, new int[] {10, 11, 10, 20}).count(2));
        due(3, () -> drawn(new int[] {0, 10, 20, 10}, new int[] {10, 10, 10, 20}).count(2));
        due(4, () -> drawn(new int[] {0, 10, 20, 10}, new int[] {10, 9, 10, 20}).count(2));
        due(2, () -> drawn(new int[] {0, 10, 20, 10}, new int[] {20, 10, 20, 20}).count(2));
        due(2, () -> drawn(new int[] {0, 10, 20, 10}, new int[] {20, 10, 30, 10}).count(2));
        due(4, () -> drawn(new int[] {0, 10, 10, 10}, new int[] {10, 10, 20, 10}, new int[] {10, 0, 10, 20}).count(2));
        due(4, () -> drawn(new int[] {0, 10, 10, 10}, new int[] {10, 10, 20, 10},
            new int[] {10, 0, 10, 10}, new int[] {10, 10, 10, 20}).count(2));
    }

    @Says("SPACES are the parts into which the plane without the lines falls; that without end is the OUTSIDE")
    static void spacesAndTheOutside() {
        int[][] open = {{0, 0, 10, 0}, {10, 0, 10, 10}, {10, 10, 0, 10}, {0, 10, 0, 1}};
        SpaceCycles s = drawn(open);
        row(of(s.count(0), s.at(5, 5)), 0, NONE);
        due(1, () -> moved(s, 3, 0, -1));
        due(0, s::run);
        due(4, () -> s.line(0, 9, 0, 10, 0));
        due(1, s::run);
        row(of(s.at(5, 5), s.at(11, 5)), 0, NONE);
    }

    @Says("all others have numbers 0, 1, .. by the least points (by x, then y) of their edges")
    static void numbersOfSpaces() {
        SpaceCycles s = new SpaceCycles();
        box(s, 50, 0, 10, 10);
        box(s, 0, 60, 10, 10);
        box(s, 0, 20, 70, 10);
        box(s, 1, 0, 10, 10);
        due(4, s::run);
        row(of(s.at(5, 25), s.at(5, 65), s.at(5, 5), s.at(55, 5)), 0, 1, 2, 3);
    }

    @Says("numbers by the least points: by x before y, of the whole edge, not of the lowest part of it")
    static void numbersByTheWholeEdge() {
        SpaceCycles s = drawn(new int[] {0, 20, 10, 20}, new int[] {10, 0, 10, 20}, new int[] {5, 0, 30, 0},
            new int[] {30, 0, 30, 30}, new int[] {0, 30, 30, 30}, new int[] {0, 20, 0, 30},
            new int[] {5, 0, 5, 10}, new int[] {5, 10, 10, 10});
        row(of(s.count(0), s.at(20, 5), s.at(5, 25), s.at(7, 5), s.at(7, 15)), 2, 0, 0, 1, NONE);
    }

    @Says("Each piece has a space (or the outside) on each of its two sides, which may be the same one.")
    static void sidesOfPieces() {
        SpaceCycles s = drawn(new int[] {0, 0, 30, 0}, new int[] {20, 0, 20, 20}, new int[] {0, 20, 20, 20},
            new int[] {0, 0, 0, 20}, new int[] {10, 0, 10, 5});
        row(counts(s), 1, 7, 7, 2, 7);
        row(of(s.side(0, 0, 1, 5), s.side(0, 0, 2, 5), s.side(0, 0, 3, 5)), 0, 0, NONE);
        row(of(s.between(0, 0), s.between(0, NONE)), 5, 80);
    }

    @Says("at each point taking the first piece that there is of those to the left, straight on")
    static void leftBeforeStraight() {
        SpaceCycles s = drawn(new int[] {0, 20, 40, 20}, new int[] {40, 20, 40, 40}, new int[] {0, 40, 40, 40},
            new int[] {0, 20, 0, 40}, new int[] {10, 20, 10, 30}, new int[] {20, 10, 20, 20}, new int[] {30, 10, 30, 30});
        due(11, () -> s.sides(0, 0));
        row(course(s, 0, 0, 0), 0, 20, 10, 20);
        row(course(s, 0, 0, 1), 10, 20, 10, 30);
        row(course(s, 0, 0, 2), 10, 30, 10, 20);
        row(course(s, 0, 0, 3), 10, 20, 20, 20);
        row(course(s, 0, 0, 4), 20, 20, 30, 20);
        row(course(s, 0, 0, 5), 30, 20, 30, 30);
        row(course(s, 0, 0, 6), 30, 30, 30, 20);
        row(course(s, 0, 0, 7), 30, 20, 40, 20);
        row(course(s, 0, 0, 10), 0, 40, 0, 20);
    }

    @Says("to the right, and back")
    static void rightBeforeBack() {
        SpaceCycles s = drawn(new int[] {0, 20, 10, 20}, new int[] {10, 20, 10, 0}, new int[] {10, 0, 30, 0},
            new int[] {30, 0, 30, 30}, new int[] {30, 30, 0, 30}, new int[] {0, 30, 0, 20}, new int[] {20, 20, 20, 30});
        due(9, () -> s.sides(0, 0));
        row(course(s, 0, 0, 0), 0, 20, 10, 20);
        row(course(s, 0, 0, 1), 10, 20, 10, 0);
        row(course(s, 0, 0, 2), 10, 0, 30, 0);
        row(course(s, 0, 0, 4), 30, 30, 20, 30);
        row(course(s, 0, 0, 5), 20, 30, 20, 20);
        row(course(s, 0, 0, 6), 20, 20, 20, 30);
        row(course(s, 0, 0, 7), 20, 30, 0, 30);
    }

    @Says("going along pieces with the space on the left hand")
    static void ringsKeepTheSpaceToTheLeft() {
        SpaceCycles s = rooms(20, 10);
        row(course(s, 0, 0, 0), 0, 0, 10, 0);
        row(course(s, 0, 0, 1), 10, 0, 10, 10);
        row(course(s, 1, 0, 3), 10, 10, 10, 0);
        row(of(s.side(0, 0, 1, 5), s.side(1, 0, 3, 5), s.sides(0, 0), s.sides(1, 0)), 1, 0, 4, 4);
    }

    @Says("Ring 0 is that which has the whole space inside; the others, 1, 2, .. by their least points")
    static void orderOfRings() {
        SpaceCycles s = new SpaceCycles();
        s.line(60, 10, 70, 10, 0);
        s.line(20, 70, 25, 70, 0);
        s.line(20, 30, 20, 35, 0);
        box(s, 10, 80, 5, 5);
        box(s, 0, 0, 100, 100);
        s.run();
        row(of(s.rings(0), s.rings(1)), 5, 1);
        row(course(s, 0, 0, 0), 0, 0, 100, 0);
        row(course(s, 0, 1, 0), 10, 80, 10, 85);
        row(course(s, 0, 2, 0), 20, 30, 20, 35);
        row(course(s, 0, 3, 0), 20, 70, 25, 70);
        row(course(s, 0, 4, 0), 60, 10, 70, 10);
    }

    @Says("the others go round what stands in it: what stands in a space within it is not its own")
    static void ringsOfNestedSpaces() {
        SpaceCycles s = new SpaceCycles();
        box(s, 0, 0, 90, 90);
        box(s, 10, 10, 70, 70);
        box(s, 20, 20, 50, 50);
        s.line(30, 30, 40, 30, 0);
        s.run();
        row(of(s.rings(0), s.rings(1), s.rings(2)), 2, 2, 2);
        row(of(s.sides(0, 1), s.sides(1, 1), s.sides(2, 1)), 4, 4, 2);
    }

    @Says("A ring begins at its least point, with the first of the sides to the right, up, .. that is in it.")
    static void whereRingsBegin() {
        SpaceCycles s = new SpaceCycles();
        box(s, 0, 0, 100, 100);
        box(s, 10, 10, 5, 5);
        s.line(20, 30, 20, 20, 0);
        s.line(35, 20, 30, 20, 0);
        s.line(40, 20, 40, 30, 0);
        s.line(45, 20, 40, 20, 0);
        s.line(50, 30, 60, 30, 0);
        s.line(55, 20, 55, 40, 0);
        s.run();
        row(course(s, 0, 0, 0), 0, 0, 100, 0);
        row(course(s, 0, 1, 0), 10, 10, 10, 15);
        row(course(s, 0, 2, 0), 20, 20, 20, 30);
        row(course(s, 0, 3, 0), 30, 20, 35, 20);
        row(course(s, 0, 4, 0), 40, 20, 45, 20);
        row(course(s, 0, 4, 2), 40, 20, 40, 30);
        row(course(s, 0, 5, 0), 50, 30, 55, 30);
        row(course(s, 0, 5, 1), 55, 30, 55, 40);
        row(course(s, 0, 5, 7), 55, 30, 50, 30);
    }

    @Says("AREA of a space is what it covers")
    static void areas() {
        SpaceCycles least = drawn(new int[] {0, 0, 1, 0}, new int[] {1, 0, 1, 1}, new int[] {0, 1, 1, 1}, new int[] {0, 0, 0, 1});
        due(1, () -> least.size(0, 0));
        SpaceCycles most = new SpaceCycles();
        box(most, 0, 0, 500, 500);
        most.run();
        due(250000, () -> most.size(0, 0));
        box(most, 1, 1, 498, 498);
        most.run();
        row(of(most.size(0, 0), most.size(1, 0)), 250000 - 498 * 498, 498 * 498);
        SpaceCycles turned = drawn(new int[] {9, 2, 9, 7}, new int[] {4, 7, 9, 7}, new int[] {4, 2, 4, 7}, new int[] {4, 2, 9, 2});
        due(25, () -> turned.size(0, 0));
    }

    @Says("its EDGE the length of all its sides")
    static void edges() {
        SpaceCycles s = new SpaceCycles();
        box(s, 0, 0, 500, 500);
        box(s, 10, 10, 5, 6);
        s.line(100, 0, 100, 50, 0);
        s.line(200, 7, 200, 8, 0);
        s.line(500, 500, 500, 499, 0);
        s.run();
        row(of(s.size(0, 1), s.size(1, 1)), 2000 + 22 + 100 + 2, 22);
    }

    @Says("its NET area the AREA less, for each of its sides, the length times half the line's thickness")
    static void netAreas() {
        SpaceCycles s = new SpaceCycles();
        s.line(0, 0, 500, 0, 60);
        s.line(500, 0, 500, 500, 60);
        s.line(0, 500, 500, 500, 60);
        s.line(0, 0, 0, 500, 60);
        s.line(7, 7, 8, 7, 2);
        s.line(8, 7, 8, 8, 4);
        s.line(7, 8, 8, 8, 0);
        s.line(7, 7, 7, 8, 60);
        s.line(100, 100, 100, 110, 6);
        s.run();
        row(of(s.size(0, 2), s.size(1, 2)), 249999 - 60000 - 33 - 60, 1 - 33);
    }

    @Says("NEIGHBOURS of a space are the others (the outside, too) that have a piece with it between them.")
    static void whoNeighboursAre() {
        SpaceCycles s = new SpaceCycles();
        box(s, 0, 0, 10, 10);
        box(s, 10, 10, 10, 10);
        box(s, 40, 40, 60, 60);
        box(s, 50, 50, 20, 20);
        s.line(5, 5, 5, 6, 0);
        s.line(70, 60, 100, 60, 0);
        due(4, s::run);
        row(of(s.neighbour(0, 0), s.neighbour(0, 1)), NONE, -2);
        row(of(s.neighbour(1, 0), s.neighbour(1, 1)), NONE, -2);
        row(of(s.neighbour(2, 0), s.neighbour(2, 1), s.neighbour(2, 2)), NONE, 3, -2);
        row(of(s.neighbour(3, 0), s.neighbour(3, 1)), 2, -2);
    }

    @Says("that are on both sides of a piece of which it has a part (of some length)")
    static void doorsThatTouchPieces() {
        SpaceCycles s = new SpaceCycles();
        box(s, 0, 0, 40, 20);
        s.line(0, 10, 40, 10, 0);
        s.line(20, 0, 20, 20, 0);
        s.run();
        s.door(4, 15, 20);
        row(of(s.way(0, 1), s.way(2, 3)), 1, -2);
        SpaceCycles high = new SpaceCycles();
        box(high, 0, 0, 40, 20);
        high.line(0, 10, 40, 10, 0);
        high.line(20, 0, 20, 20, 0);
        high.run();
        high.door(4, 20, 21);
        row(of(high.way(0, 1), high.way(2, 3)), -2, 1);
        s.door(4, 19, 21);
        row(of(s.way(0, 1), s.way(2, 3)), 1, 1);
        SpaceCycles last = drawn(new int[] {0, 0, 1, 0}, new int[] {0, 0, 0, 400}, new int[] {1, 0, 1, 400}, new int[] {0, 400, 1, 400});
        last.door(2, 399, 400);
        due(1, () -> last.way(0, NONE));
    }

    @Says("It JOINS two spaces (or the outside, or one with itself)")
    static void doorsToTheOutsideAndNowhere() {
        SpaceCycles s = rooms(20, 10);
        s.line(5, 0, 5, 5, 0);
        s.line(30, 0, 30, 10, 0);
        s.run();
        s.door(5, 0, 5);
        s.door(6, 0, 10);
        row(of(s.way(0, 0), s.way(0, 1), s.way(0, NONE), s.way(NONE, NONE)), 0, -2, -2, 0);
        s.door(0, 11, 12);
        row(of(s.way(1, NONE), s.way(NONE, 1), s.way(0, NONE)), 1, 1, -2);
    }

    @Says("A WAY goes through doors.")
    static void waysNeedDoors() {
        SpaceCycles s = rooms(30, 10, 20);
        row(of(s.way(0, 1), s.way(1, 2), s.way(1, NONE)), -2, -2, -2);
        s.door(4, 0, 10);
        row(of(s.way(0, 1), s.way(1, 2), s.way(1, NONE)), 1, -2, -2);
        s.door(5, 0, 10);
        row(of(s.way(0, 1), s.way(1, 2), s.way(0, 2)), 1, 1, 2);
    }

    @Says("LOOSE ENDS are lines' ends at which no other line is")
    static void whatIsLoose() {
        due(0, () -> drawn().count(3));
        due(2, () -> drawn(new int[] {0, 0, 1, 0}).count(3));
        due(4, () -> drawn(new int[] {0, 10, 20, 10}, new int[] {10, 11, 10, 20}).count(3));
        due(3, () -> drawn(new int[] {0, 10, 20, 10}, new int[] {10, 10, 10, 20}).count(3));
        due(4, () -> drawn(new int[] {0, 10, 20, 10}, new int[] {10, 9, 10, 20}).count(3));
        due(2, () -> drawn(new int[] {0, 10, 20, 10}, new int[] {20, 10, 20, 20}).count(3));
        due(2, () -> drawn(new int[] {0, 10, 20, 10}, new int[] {20, 10, 30, 10}).count(3));
        due(0, () -> rooms(20, 10).count(3));
        SpaceCycles all = new SpaceCycles();
        for (int k = 0; k < 20; k++) all.line(k, 0, k, 1, 0);
        all.run();
        due(40, () -> all.count(3));
    }

    @Says("by their points (x, then y)")
    static void orderOfLooseEnds() {
        SpaceCycles s = drawn(new int[] {50, 0, 10, 0}, new int[] {10, 90, 10, 60}, new int[] {5, 99, 10, 99}, new int[] {10, 30, 20, 30});
        long[][] want = {{2, 5, 99}, {0, 10, 0}, {3, 10, 30}, {1, 10, 60}, {1, 10, 90}, {2, 10, 99}, {3, 20, 30}, {0, 50, 0}};
        for (int k = 0; k < want.length; k++) row(of(s.loose(k, 0), s.loose(k, 1), s.loose(k, 2)), want[k]);
    }

    @Says("how far it is from it straight on (away from the line) to the next point of another line")
    static void reachInAllDirections() {
        SpaceCycles s = drawn(new int[] {100, 100, 200, 100}, new int[] {150, 50, 150, 150}, new int[] {99, 100, 99, 101},
            new int[] {202, 90, 202, 110}, new int[] {140, 47, 150, 47}, new int[] {150, 154, 160, 154}, new int[] {150, 155, 150, 160});
        row(of(reachAt(s, 100, 100), reachAt(s, 200, 100), reachAt(s, 150, 50), reachAt(s, 150, 150)), 1, 2, 3, 4);
    }

    @Says("the REACH: the least is 1, the greatest 499; a line at the side, or behind, is not straight on")
    static void reachAtItsBounds() {
        SpaceCycles s = drawn(new int[] {0, 0, 1, 0}, new int[] {500, 0, 500, 9}, new int[] {2, 1, 2, 9});
        row(looseEnd(s, 0), 0, 0, 0, NONE);
        row(looseEnd(s, 1), 0, 1, 0, 499);
        SpaceCycles near = drawn(new int[] {0, 0, 1, 0}, new int[] {500, 0, 500, 9}, new int[] {2, 0, 2, 9});
        row(looseEnd(near, 1), 0, 1, 0, 1);
    }

    @Says("to the next point of another line: the nearest of several, met across, at an end, or end to end")
    static void reachToTheNearest() {
        SpaceCycles s = drawn(new int[] {0, 50, 10, 50}, new int[] {40, 0, 40, 100}, new int[] {30, 50, 30, 60}, new int[] {20, 50, 25, 50});
        due(10, () -> s.loose(1, 3));
        s.move(3, 0, 100);
        s.run();
        due(20, () -> s.loose(1, 3));
        s.move(2, 0, 1);
        s.run();
        due(30, () -> s.loose(1, 3));
        s.move(1, 0, 51);
        s.run();
        due(NONE, () -> s.loose(1, 3));
    }

    @Says("to the next point of another line: the first line and the last one alike, and none that stands beside")
    static void reachUpAndDown() {
        SpaceCycles s = drawn(new int[] {90, 300, 110, 300}, new int[] {100, 100, 100, 200}, new int[] {90, 50, 110, 50},
            new int[] {90, 250, 99, 250}, new int[] {101, 250, 110, 250}, new int[] {90, 70, 99, 70}, new int[] {101, 70, 110, 70});
        row(of(reachAt(s, 100, 100), reachAt(s, 100, 200)), 50, 100);
        s.move(0, 10, 0);
        s.move(2, -10, 0);
        s.run();
        row(of(reachAt(s, 100, 100), reachAt(s, 100, 200)), 50, 100);
        s.move(0, 1, 0);
        s.move(2, -1, 0);
        s.run();
        row(of(reachAt(s, 100, 100), reachAt(s, 100, 200)), NONE, NONE);
    }

    @Says("NAMES (1 .. 1000) of spaces, 0 for none.")
    static void boundsOfNames() {
        SpaceCycles s = rooms(10);
        due(0, () -> s.nameOf(0), () -> s.name(0, 1));
        due(1, () -> s.name(0, 1000));
        due(ARGUMENT, () -> s.name(0, 1001), () -> s.name(0, -1), () -> s.name(0, LEAST), () -> s.name(0, MOST));
        due(1000, () -> s.nameOf(0), () -> s.name(0, 0));
        due(0, () -> s.nameOf(0), () -> s.name(0, 0));
    }

    @Says("A run that is not the first one gives names on")
    static void namesGoOn() {
        SpaceCycles s = rooms(20, 10);
        row(of(s.nameOf(0), s.nameOf(1)), 0, 0);
        s.name(0, 5);
        s.name(1, 6);
        for (int k = 2; k <= 100; k++) s.run();
        row(of(s.nameOf(0), s.nameOf(1)), 5, 6);
    }

    @Says("for each space that had a name .. that one of the new ones with which it has the greatest area in common")
    static void namesGoWithTheGreatestArea() {
        SpaceCycles s = rooms(20, 10);
        s.name(0, 5);
        s.line(4, 0, 4, 10, 0);
        s.run();
        row(of(s.nameOf(0), s.nameOf(1), s.nameOf(2)), 0, 5, 0);
        s.move(5, 2, 0);
        s.run();
        row(of(s.nameOf(0), s.nameOf(1), s.nameOf(2)), 0, 5, 0);
        s.move(5, 3, 0);
        s.run();
        row(of(s.nameOf(0), s.nameOf(1), s.nameOf(2)), 5, 0, 0);
        s.move(4, 0, 400);
        s.run();
        row(of(s.count(0), s.nameOf(0), s.nameOf(1)), 2, 5, 0);
    }

    @Says("if it has any")
    static void namesOfSpacesThatAreGone() {
        SpaceCycles s = rooms(20, 10);
        s.name(1, 6);
        s.move(1, 10, 0);
        s.run();
        row(of(s.count(0), s.nameOf(0)), 1, 0);
        s.move(1, -10, 0);
        s.run();
        row(of(s.count(0), s.nameOf(0), s.nameOf(1)), 2, 0, 0);
    }

    @Says("if it has any: a single unit is enough")
    static void namesThatGoOnByAUnit() {
        SpaceCycles s = new SpaceCycles();
        box(s, 0, 0, 10, 10);
        s.run();
        s.name(0, 5);
        for (int line = 0; line < 4; line++) s.move(line, 9, 9);
        s.run();
        row(of(s.nameOf(0), s.overlap(0, 0)), 5, 1);
        for (int line = 0; line < 4; line++) s.move(line, 10, 0);
        s.run();
        row(of(s.nameOf(0), s.overlap(0, 0)), 0, 0);
    }

    @Says("(of several the least)")
    static void namesOfSpacesCutInHalves() {
        SpaceCycles s = rooms(30);
        s.name(0, 5);
        s.line(10, 0, 10, 10, 0);
        s.line(20, 0, 20, 10, 0);
        s.run();
        row(of(s.nameOf(0), s.nameOf(1), s.nameOf(2)), 5, 0, 0);
        s.name(0, 0);
        s.name(2, 7);
        s.line(25, 0, 25, 10, 0);
        s.run();
        row(of(s.nameOf(0), s.nameOf(1), s.nameOf(2), s.nameOf(3)), 0, 0, 7, 0);
    }

    @Says("a new one that is to have several has that with the greatest such area")
    static void namesThatMeet() {
        SpaceCycles s = rooms(30, 9, 20);
        s.name(0, 5);
        s.name(1, 6);
        s.name(2, 7);
        s.move(4, 0, 400);
        s.move(5, 0, 400);
        s.run();
        row(of(s.count(0), s.nameOf(0)), 1, 6);
    }

    @Says("of these the one of the least old number")
    static void namesThatMeetWithEqualAreas() {
        SpaceCycles s = rooms(30, 10, 20);
        s.name(1, 1000);
        s.name(2, 1);
        s.move(4, 0, 400);
        s.move(5, 0, 400);
        s.run();
        row(of(s.count(0), s.nameOf(0)), 1, 1000);
    }

    @Says("that one .. is to have it: the name that loses goes to no other space")
    static void namesThatLose() {
        SpaceCycles s = rooms(30, 10);
        s.name(0, 5);
        s.name(1, 6);
        s.line(4, 0, 4, 10, 0);
        s.move(4, 0, 400);
        s.run();
        row(of(s.count(0), s.nameOf(0), s.nameOf(1)), 2, 0, 6);
    }

    @Says("there is no such line, space, ring, side (of the latest run)")
    static void onlyTheLatestRunCounts() {
        SpaceCycles s = rooms(30, 10, 20);
        due(0, () -> s.nameOf(2));
        due(ARGUMENT, () -> s.nameOf(3));
        s.move(5, 0, 400);
        due(STATE, () -> s.nameOf(2), () -> s.sides(2, 0), () -> s.side(2, 0, 3, 0), () -> s.way(2, 2));
        due(ARGUMENT, () -> s.nameOf(3), () -> s.sides(2, 1), () -> s.side(2, 0, 4, 0), () -> s.way(3, 2));
        s.run();
        due(0, () -> s.nameOf(1), () -> s.overlap(0, 1));
        due(ARGUMENT, () -> s.nameOf(2), () -> s.sides(2, 0), () -> s.side(2, 0, 3, 0), () -> s.way(2, 2), () -> s.way(0, 2));
        s.move(5, 0, -400);
        due(ARGUMENT, () -> s.nameOf(2), () -> s.rings(2), () -> s.overlap(0, 2), () -> s.between(0, 2));
    }

    /** Each call that needs a run, rightly for a storey of at least one space. */
    private static Call[] questions(SpaceCycles s) {
        return new Call[] {() -> s.count(0), () -> s.count(4), () -> s.rings(0), () -> s.sides(0, 0), () -> s.side(0, 0, 0, 0),
            () -> s.side(0, 0, 3, 5), () -> s.size(0, 0), () -> s.size(0, 2), () -> s.at(0, 0), () -> s.at(500, 500),
            () -> s.neighbour(0, 0), () -> s.neighbour(0, MOST), () -> s.between(0, 0), () -> s.between(0, NONE),
            () -> s.way(0, 0), () -> s.way(NONE, NONE), () -> s.loose(0, 0), () -> s.loose(MOST, 3), () -> s.name(0, 0),
            () -> s.name(0, 1000), () -> s.nameOf(0), () -> s.overlap(0, 0), () -> s.overlap(MOST, 0)};
    }

    /** Each call that needs a run, wrongly for a storey of one space with one ring of four sides. */
    private static Call[] wrongQuestions(SpaceCycles s) {
        return new Call[] {() -> s.count(-1), () -> s.count(5), () -> s.rings(-1), () -> s.rings(1), () -> s.sides(0, -1),
            () -> s.sides(0, 1), () -> s.sides(1, 0), () -> s.side(1, 0, 0, 0), () -> s.side(0, 1, 0, 0), () -> s.side(0, 0, 4, 0),
            () -> s.side(0, 0, -1, 0), () -> s.side(0, 0, 0, 6), () -> s.side(0, 0, 0, -1), () -> s.size(1, 0),
            () -> s.size(0, 3), () -> s.size(0, -1), () -> s.at(-1, 0), () -> s.at(0, -1), () -> s.at(501, 0), () -> s.at(0, 501),
            () -> s.neighbour(1, 0), () -> s.neighbour(NONE, 0), () -> s.neighbour(0, -1), () -> s.between(1, 0),
            () -> s.between(0, 1), () -> s.between(0, -2), () -> s.way(1, 0), () -> s.way(0, 1), () -> s.way(-2, 0),
            () -> s.way(0, -2), () -> s.loose(-1, 0), () -> s.loose(0, -1), () -> s.loose(0, 4), () -> s.name(1, 0),
            () -> s.name(0, -1), () -> s.name(0, 1001), () -> s.nameOf(1), () -> s.nameOf(NONE), () -> s.overlap(-1, 0),
            () -> s.overlap(0, 1), () -> s.overlap(0, -1)};
    }

    @Says("Illegal state: a line came .. since the latest run")
    static void aLineCame() {
        SpaceCycles s = rooms(10);
        s.line(400, 0, 400, 1, 0);
        due(STATE, questions(s));
    }

    @Says("Illegal state: a line .. was moved since the latest run")
    static void aLineWasMoved() {
        SpaceCycles s = rooms(10);
        s.move(0, 1, 0);
        due(STATE, questions(s));
        s.move(0, -1, 0);
        due(STATE, questions(s));
    }

    @Says("or there was none: no number of a space is right before the first run")
    static void thereWasNoRun() {
        SpaceCycles s = new SpaceCycles();
        box(s, 0, 0, 10, 10);
        due(STATE, () -> s.count(0), () -> s.count(4), () -> s.at(0, 0), () -> s.at(500, 500), () -> s.loose(0, 0));
        due(ARGUMENT, () -> s.rings(0), () -> s.sides(0, 0), () -> s.side(0, 0, 0, 0), () -> s.size(0, 0),
            () -> s.neighbour(0, 0), () -> s.between(0, NONE), () -> s.way(0, 0), () -> s.way(NONE, NONE),
            () -> s.name(0, 1), () -> s.nameOf(0), () -> s.overlap(0, 0));
        due(ARGUMENT, wrongQuestions(s));
    }

    @Says("a line came or was moved: one that was refused did not come, and one that stayed was not moved; doors are no lines")
    static void aRunThatHolds() {
        SpaceCycles s = rooms(20, 10);
        due(NONE, () -> s.line(0, 0, 1, 0, 0));
        due(ARGUMENT, () -> s.line(0, 0, 0, 0, 0), () -> moved(s, 0, 500, 0));
        due(0, () -> moved(s, 2, 0, -10));
        due(1, () -> s.door(0, 0, 20));
        due(2, () -> s.count(0));
        row(of(s.way(0, 1), s.size(1, 0)), 2, 100);
    }

    @Says("Of several exceptions the one named first is thrown")
    static void wrongArgumentsBeforeTheState() {
        SpaceCycles s = rooms(10);
        due(ARGUMENT, wrongQuestions(s));
        s.move(0, 1, 0);
        due(ARGUMENT, wrongQuestions(s));
        for (int k = 4; k < 20; k++) s.line(k * 10, 100, k * 10, 101, 0);
        due(ARGUMENT, () -> s.line(0, 0, 0, 0, 0), () -> s.line(0, 0, 1, 1, 0), () -> s.line(0, 0, 1, 0, 1), () -> s.line(0, 0, 501, 0, 0));
        for (int k = 0; k < 6; k++) s.door(0, 0, 10);
        due(ARGUMENT, () -> s.door(0, 5, 5), () -> s.door(0, 0, 11), () -> s.door(0, -1, 5), () -> s.door(20, 0, 1));
    }

    @Says("a call that throws changes nothing")
    static void throwingLeavesAllAsItWas() {
        SpaceCycles s = rooms(10);
        s.door(3, 0, 10);
        s.name(0, 9);
        s.run();
        String before = picture(s);
        due(ARGUMENT, wrongQuestions(s));
        due(ARGUMENT, () -> s.line(5, 0, 5, 10, 61), () -> s.line(5, 0, 6, 10, 0), () -> s.line(5, 0, 5, 0, 0),
            () -> moved(s, 0, 0, -1), () -> moved(s, 1, 491, 0), () -> moved(s, 4, 1, 1), () -> moved(s, -1, 1, 1),
            () -> s.door(0, 0, 11), () -> s.door(0, 5, 5), () -> s.door(4, 0, 1), () -> s.door(-1, 0, 1));
        same(picture(s), before);
        due(1, () -> s.door(0, 0, 1));
        due(4, () -> s.line(5, 0, 5, 10, 0));
    }

    @Says("a call that throws changes nothing: a name that cannot be given, a run that cannot be made")
    static void throwingInAWrongState() {
        SpaceCycles s = rooms(10);
        s.name(0, 9);
        s.move(0, 1, 0);
        due(STATE, () -> s.name(0, 10), () -> s.name(0, 0));
        s.move(0, -1, 0);
        for (int k = 2; k <= 100; k++) due(1, s::run);
        String before = picture(s);
        due(STATE, s::run, s::run);
        same(picture(s), before);
        due(9, () -> s.nameOf(0));
    }
}
