/** Promises 21 to 28 and what the terms say of what they count: a test for each sentence with a boundary. */
public final class BoundsOfCountsTest {
    private static final int LEAST = Integer.MIN_VALUE;
    private static final int GREATEST = Integer.MAX_VALUE;

    public static void main(String[] args) {
        crossOfNone();
        crossOfPointsAlike();
        crossOfNoneAheadOfAlike();
        crossByBothPairs();
        crossingsOfNone();
        fewestAndMostCrossings();
        emptiesOfNone();
        fewestAndMostEmpties();
        cornersAreNotWithin();
        levelOfNone();
        rangeOfLevels();
        levelOfNoneAheadOfRange();
        lesserSide();
        matchingsOfNone();
        setBelowZero();
        setWithAPointThatThereIsNot();
        matchingsOfNoneAheadOfSet();
        matchingsOfNoPoints();
        matchingsOfOddSets();
        matchingsOfWholeSets();
        pathsOfNone();
        pathsBackward();
        extensionsOfNone();
        extensionsOfMoreThanFive();
        fewestExtensions();
        canonicalOfNone();
        leastCanonical();
        bitsOfCanonical();
        anyNames();
        smallAfterLarge();
        Due.end();
    }

    private static void crossOfNone() {
        Due.by(21, "@throws IndexOutOfBoundsException if there is no such drawing or point");
        Refused.withoutDrawing("cross", (hall, drawing) -> hall.cross(drawing, 0, 1, 2, 3));
        Refused.withoutPoint("cross i", (hall, point) -> hall.cross(0, point, 1, 2, 3));
        Refused.withoutPoint("cross j", (hall, point) -> hall.cross(0, 0, point, 2, 3));
        Refused.withoutPoint("cross k", (hall, point) -> hall.cross(0, 0, 1, point, 3));
        Refused.withoutPoint("cross l", (hall, point) -> hall.cross(0, 0, 1, 2, point));
        Refused.index("cross of point 7 of 7", Halls::busy, hall -> hall.cross(2, 4, 5, 6, 7));
        Refused.index("cross of point 3 of 3", Halls::full, hall -> hall.cross(0, 0, 1, 2, 3));
    }

    private static void crossOfPointsAlike() {
        Due.by(21, "@throws IllegalArgumentException if two of the points are the same");
        int[][] alike = {{0, 0, 1, 2}, {0, 1, 0, 2}, {0, 1, 2, 0}, {1, 0, 0, 2}, {1, 0, 2, 0}, {1, 2, 0, 0},
            {3, 3, 3, 3}, {0, 1, 0, 1}, {0, 1, 1, 0}, {2, 2, 3, 3}};
        for (int[] a : alike) {
            Refused.argument("cross of points alike", Halls::busy, hall -> hall.cross(0, a[0], a[1], a[2], a[3]));
        }
        Refused.argument("cross of points of three", Halls::full, hall -> hall.cross(0, 0, 1, 2, 0));
        Refused.argument("cross of points of seven", Halls::busy, hall -> hall.cross(2, 6, 5, 4, 6));
    }

    private static void crossOfNoneAheadOfAlike() {
        Due.by("Terms", "the one that its comment lists first is thrown");
        Refused.withoutDrawing("cross of 0, 0, 0, 0", (hall, drawing) -> hall.cross(drawing, 0, 0, 0, 0));
        Refused.withoutPoint("cross of 1, 1, 1 and", (hall, point) -> hall.cross(0, 1, 1, 1, point));
        Refused.withoutPoint("cross of 1, 1 beside", (hall, point) -> hall.cross(0, 1, 1, point, 2));
        Refused.withoutPoint("cross of 1 twice beside", (hall, point) -> hall.cross(0, 1, point, 1, 2));
        Refused.withoutPoint("cross of 1, 1 behind", (hall, point) -> hall.cross(0, point, 1, 1, 2));
        Refused.withoutPoint("cross of four times", (hall, point) -> hall.cross(0, point, point, point, point));
    }

    private static void crossByBothPairs() {
        Due.by("Terms", "if the signs of i, j, k and of i, j, l are unlike, and those of k, l, i and of k, l, j are");
        TurnsHall square = Halls.drawn(0, 0, 10, 0, 10, 11, 0, 10);
        Due.yes("both unlike", square.cross(0, 0, 2, 1, 3));
        Due.no("none unlike", square.cross(0, 0, 1, 2, 3));
        Due.no("none unlike, the other sides", square.cross(0, 1, 2, 3, 0));
        TurnsHall middle = Halls.middle();
        for (int corner = 0; corner < 3; corner++) {
            int one = (corner + 1) % 3;
            int other = (corner + 2) % 3;
            Due.no("the first unlike alone", middle.cross(0, corner, 3, one, other));
            Due.no("the last unlike alone", middle.cross(0, one, other, corner, 3));
            Due.no("the last unlike alone, exchanged", middle.cross(0, other, one, 3, corner));
        }
    }

    private static void crossingsOfNone() {
        Due.by(22, "@throws IndexOutOfBoundsException if there is no such drawing");
        Refused.withoutDrawing("crossings", (hall, drawing) -> hall.crossings(drawing));
    }

    private static void fewestAndMostCrossings() {
        Due.by(22, "Counts pairs of segments that cross.");
        int[] due = {0, 0, 0, 0, 1, 5, 15, 35};
        for (int points = 3; points <= 7; points++) {
            int many = points;
            Due.same("crossings on a hull of " + points, due[points], () -> Halls.convex(many).crossings(0));
        }
        Due.same("crossings with a middle", 0, () -> Halls.middle().crossings(0));
    }

    private static void emptiesOfNone() {
        Due.by(23, "@throws IndexOutOfBoundsException if there is no such drawing");
        Refused.withoutDrawing("empties", (hall, drawing) -> hall.empties(drawing));
    }

    private static void fewestAndMostEmpties() {
        Due.by(23, "Counts sets of three points within which none lies.");
        int[] due = {0, 0, 0, 1, 4, 10, 20, 35};
        for (int points = 3; points <= 7; points++) {
            int many = points;
            Due.same("empties on a hull of " + points, due[points], () -> Halls.convex(many).empties(0));
        }
        Due.same("empties with a middle", 3, () -> Halls.middle().empties(0));
    }

    private static void cornersAreNotWithin() {
        Due.by("Terms", "A point p lies within i, j, k, all four unlike, if the signs of i, j, p; of j, k, p; and of "
                + "k, i, p are the same.");
        TurnsHall three = Halls.convex(3);
        three.copy(0, true);
        Due.same("empties of three", 1, () -> three.empties(0));
        Due.same("empties of their mirror", 1, () -> three.empties(1));
        for (int middle = 0; middle < 4; middle++) {
            TurnsHall hall = Halls.middle();
            if (middle != 3) {
                hall.rename(0, 3, middle);
            }
            hall.copy(0, true);
            Due.same("empties where " + middle + " lies within", 3, () -> hall.empties(0));
            Due.same("empties of its mirror", 3, () -> hall.empties(1));
        }
    }

    private static void levelOfNone() {
        Due.by(24, "@throws IndexOutOfBoundsException if there is no such drawing");
        Refused.withoutDrawing("level", (hall, drawing) -> hall.level(drawing, 0));
    }

    private static void rangeOfLevels() {
        Due.by(24, "@param level 0 to 2");
        Due.same("level 0", 3, () -> Halls.busy().level(0, 0));
        Due.same("level 2", 7, () -> Halls.busy().level(2, 2));
        Due.same("level 2, that four points do not have", 0, () -> Halls.busy().level(0, 2));
        Due.by(24, "@throws IllegalArgumentException if level is out of its range");
        for (int level : new int[] {-1, 3, 4, LEAST, GREATEST}) {
            for (int drawing = 0; drawing < Halls.BUSY_DRAWINGS; drawing++) {
                int d = drawing;
                Refused.argument("level " + level + " of " + d, Halls::busy, hall -> hall.level(d, level));
            }
        }
    }

    private static void levelOfNoneAheadOfRange() {
        Due.by("Terms", "the one that its comment lists first is thrown");
        Refused.withoutDrawing("level -1", (hall, drawing) -> hall.level(drawing, -1));
        Refused.withoutDrawing("level 3", (hall, drawing) -> hall.level(drawing, 3));
    }

    private static void levelsAre(String what, TurnsHall hall, int drawing, int... due) {
        for (int level = 0; level <= 2; level++) {
            int at = level;
            Due.same("level " + level + " of " + what, due[level], () -> hall.level(drawing, at));
        }
    }

    private static void lesserSide() {
        Due.by("Terms", "the number of other points that have the sign 1 with both, or of those that have -1, "
                + "the lesser one");
        levelsAre("three", Halls.convex(3), 0, 3, 0, 0);
        levelsAre("four on a hull, two on each side", Halls.convex(4), 0, 4, 2, 0);
        levelsAre("three and a middle", Halls.middle(), 0, 3, 3, 0);
        levelsAre("five on a hull", Halls.convex(5), 0, 5, 5, 0);
        levelsAre("six on a hull, two on each side", Halls.convex(6), 0, 6, 6, 3);
        levelsAre("seven on a hull", Halls.convex(7), 0, 7, 7, 7);
        TurnsHall seven = Halls.convex(7);
        seven.copy(0, true);
        levelsAre("the mirror of seven on a hull", seven, 1, 7, 7, 7);
    }

    private static void matchingsOfNone() {
        Due.by(25, "@throws IndexOutOfBoundsException if there is no such drawing");
        Refused.withoutDrawing("matchings", (hall, drawing) -> hall.matchings(drawing, 3));
        Refused.withoutDrawing("matchings of no points", (hall, drawing) -> hall.matchings(drawing, 0));
    }

    private static void setBelowZero() {
        Due.by(25, "@throws IllegalArgumentException if set is below 0");
        for (int set : new int[] {-1, -2, -128, LEAST, LEAST | 3}) {
            for (int drawing = 0; drawing < Halls.BUSY_DRAWINGS; drawing++) {
                int d = drawing;
                Refused.argument("matchings of " + set, Halls::busy, hall -> hall.matchings(d, set));
            }
        }
    }

    private static void setWithAPointThatThereIsNot() {
        Due.by(25, "or has a point that there is not");
        for (int drawing = 0; drawing < 6; drawing++) {
            int d = drawing;
            int first = 1 << Math.max(3, d + 2);
            for (int set : new int[] {first, first | 1, first | first - 1, first << 1, 1 << 30, GREATEST}) {
                Refused.argument("matchings of " + set + " of " + d, Halls::full, hall -> hall.matchings(d, set));
            }
            int all = first - 1;
            Due.tell("matchings of all points of " + d + " are counted", "false",
                    "" + Due.outcome(() -> Halls.full().matchings(d, all)).endsWith("Exception"));
        }
    }

    private static void matchingsOfNoneAheadOfSet() {
        Due.by("Terms", "the one that its comment lists first is thrown");
        Refused.withoutDrawing("matchings of -1", (hall, drawing) -> hall.matchings(drawing, -1));
        Refused.withoutDrawing("matchings of 128", (hall, drawing) -> hall.matchings(drawing, 128));
    }

    private static void matchingsOfNoPoints() {
        Due.by(25, "1 for no points");
        for (int drawing = 0; drawing < 6; drawing++) {
            int d = drawing;
            Due.same("matchings of no points of " + d, 1, () -> Halls.full().matchings(d, 0));
        }
    }

    private static void matchingsOfOddSets() {
        Due.by("Terms", "A matching of some points is a set of segments such that each of them is an end of just one");
        TurnsHall hall = Halls.convex(7);
        for (int set = 0; set < 128; set++) {
            int some = set;
            int count = Integer.bitCount(set);
            int[] due = {1, 0, 1, 0, 2, 0, 5, 0};
            Due.same("matchings of " + set, due[count], () -> hall.matchings(0, some));
        }
    }

    private static void matchingsOfWholeSets() {
        Due.by("Terms", "it is plane, if no two of these cross");
        int[] due = {0, 0, 0, 0, 2, 0, 5, 0};
        for (int points = 3; points <= 7; points++) {
            int many = points;
            int all = (1 << points) - 1;
            Due.same("matchings of all " + points, due[points], () -> Halls.convex(many).matchings(0, all));
        }
        Due.same("matchings of all four, none crossing", 3, () -> Halls.middle().matchings(0, 15));
    }

    private static void pathsOfNone() {
        Due.by(26, "@throws IndexOutOfBoundsException if there is no such drawing");
        Refused.withoutDrawing("paths", (hall, drawing) -> hall.paths(drawing));
    }

    private static void pathsBackward() {
        Due.by("Terms", "a path and the same one backward are one");
        int[] due = {0, 0, 0, 3, 8, 20, 48, 112};
        for (int points = 3; points <= 7; points++) {
            int many = points;
            Due.same("paths on a hull of " + points, due[points], () -> Halls.convex(many).paths(0));
        }
        Due.same("paths of four, none crossing", 12, () -> Halls.middle().paths(0));
    }

    private static void extensionsOfNone() {
        Due.by(27, "@throws IndexOutOfBoundsException if there is no such drawing");
        Refused.withoutDrawing("extensions", (hall, drawing) -> hall.extensions(drawing));
    }

    private static void extensionsOfMoreThanFive() {
        Due.by(27, "@throws IllegalStateException if it has more than 5 points");
        Refused.state("extensions of six", Halls::full, hall -> hall.extensions(4));
        Refused.state("extensions of seven", Halls::full, hall -> hall.extensions(5));
        Refused.state("extensions of seven by a word", Halls::busy, hall -> hall.extensions(2));
        Due.same("extensions of five", 51, () -> Halls.full().extensions(3));
    }

    private static void fewestExtensions() {
        Due.by(27, "all signs of it with two others such that the signs hold");
        for (int[] order : SlowPlan.permutations(3)) {
            TurnsHall hall = Halls.drawn(order[0], order[0] * order[0], order[1], order[1] * order[1],
                    order[2], order[2] * order[2]);
            Due.same("extensions of three: all but one", 7, () -> hall.extensions(0));
        }
        Due.same("extensions of four on a hull", 20, () -> Halls.convex(4).extensions(0));
        Due.same("extensions of three and a middle", 18, () -> Halls.middle().extensions(0));
    }

    private static void canonicalOfNone() {
        Due.by(28, "@throws IndexOutOfBoundsException if there is no such drawing");
        Refused.withoutDrawing("canonical", (hall, drawing) -> hall.canonical(drawing, false));
        Refused.withoutDrawing("canonical of the mirror", (hall, drawing) -> hall.canonical(drawing, true));
    }

    private static void leastCanonical() {
        Due.by("Terms", "The canonical number of a drawing is the least over all ways to name its points anew");
        for (int points = 3; points <= 7; points++) {
            TurnsHall hall = Halls.convex(points);
            hall.copy(0, true);
            for (int drawing = 0; drawing < 2; drawing++) {
                int d = drawing;
                Due.same("canonical of a hull of " + points, 0, () -> hall.canonical(d, false));
                Due.same("canonical of its mirror", 0, () -> hall.canonical(d, true));
            }
        }
    }

    private static void bitsOfCanonical() {
        Due.by("Terms", "0, 1, 2 ahead of 0, 1, 3 and so on, the first one the highest bit, 1 for the sign 1, 0 for -1");
        Due.same("canonical of three and a middle", 1, () -> Halls.middle().canonical(0, false));
        Due.same("canonical of its mirror", 1, () -> Halls.middle().canonical(0, true));
        Due.same("canonical of four on a hull and one within: 2, 3, 4 alone", 1,
                () -> Halls.drawn(0, 0, 100, 0, 101, 100, 0, 90, 40, 61).canonical(0, false));
        Due.same("canonical of three and two within: 1, 2, 4 and 1, 3, 4 too", 7,
                () -> Halls.drawn(0, 0, 100, 0, 0, 100, 20, 21, 30, 45).canonical(0, false));
        TurnsHall seven = Halls.drawn(0, 0, 1000, -3, 500, 900, 480, 200, 510, 300, 400, 310, 610, 150);
        Due.same("canonical of seven", 389043, () -> seven.canonical(0, false));
        Due.same("canonical of their mirror", 520115, () -> seven.canonical(0, true));
        for (int point = 1; point < 7; point++) {
            seven.rename(0, point - 1, point);
            Due.same("canonical of seven under other names", 389043, () -> seven.canonical(0, false));
            Due.same("canonical of their mirror under other names", 520115, () -> seven.canonical(0, true));
        }
    }

    /** Each of the segments is once the one between 0 and 1, which comes first. */
    private static void anyNames() {
        Due.by("Terms", "whatever is told of a drawing follows from its signs alone");
        for (int[] order : SlowPlan.permutations(4)) {
            TurnsHall square = Halls.named(new int[] {0, 0, 10, 0, 10, 11, 0, 10}, order);
            Due.same("crossings", 1, () -> square.crossings(0));
            Due.same("empties", 4, () -> square.empties(0));
            Due.same("matchings", 2, () -> square.matchings(0, 15));
            Due.same("paths", 8, () -> square.paths(0));
            Due.same("extensions", 20, () -> square.extensions(0));
            Due.same("canonical", 0, () -> square.canonical(0, false));
            levelsAre("four on a hull", square, 0, 4, 2, 0);
        }
        for (int[] order : SlowPlan.permutations(6)) {
            TurnsHall six = Halls.named(new int[] {0, 0, 10, 10, 20, 40, 30, 90, 40, 160, 50, 250}, order);
            Due.same("crossings of six", 15, () -> six.crossings(0));
            Due.same("matchings of six", 5, () -> six.matchings(0, 63));
            Due.same("paths of six", 48, () -> six.paths(0));
        }
    }

    /** What was counted for the drawing before leaves no trace. */
    private static void smallAfterLarge() {
        Due.by("Terms", "The aim is that whatever is told of a drawing follows from its signs alone");
        for (int[] order : SlowPlan.permutations(5)) {
            TurnsHall hall = Halls.named(new int[] {0, 0, 10, 10, 20, 40, 30, 90, 40, 160}, order);
            Halls.draw(hall, 0, 0, 90, 0, 0, 90, 20, 21);
            Halls.draw(hall, 0, 0, 90, 0, 0, 90);
            for (int round = 0; round < 2; round++) {
                Due.same("crossings of five", 5, () -> hall.crossings(0));
                Due.same("crossings with a middle", 0, () -> hall.crossings(1));
                Due.same("matchings of five", 0, () -> hall.matchings(0, 31));
                Due.same("matchings with a middle", 3, () -> hall.matchings(1, 15));
                Due.same("paths of five", 20, () -> hall.paths(0));
                Due.same("paths of three", 3, () -> hall.paths(2));
                Due.same("extensions of five", 51, () -> hall.extensions(0));
                Due.same("extensions of three", 7, () -> hall.extensions(2));
                Due.same("extensions of five again", 51, () -> hall.extensions(0));
                Due.same("extensions with a middle", 18, () -> hall.extensions(1));
                Due.same("canonical of five", 0, () -> hall.canonical(0, true));
                Due.same("canonical with a middle", 1, () -> hall.canonical(1, true));
                Due.same("triangulations of five", 5, () -> hall.triangulations(0));
                Due.same("triangulations with a middle", 1, () -> hall.triangulations(1));
                Due.same("segments of five", 7, () -> hall.triangulate(0));
                Due.same("segments with a middle", 6, () -> hall.triangulate(1));
            }
        }
    }
}
