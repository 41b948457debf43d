/** Promises 29 to 32 and what the terms say of triangulations: a test for each sentence with a boundary. */
public final class BoundsOfTriangulationsTest {
    private static final int LEAST = Integer.MIN_VALUE;
    private static final int GREATEST = Integer.MAX_VALUE;

    public static void main(String[] args) {
        triangulateOfNone();
        fewestAndMostSegments();
        triangulateAnew();
        byRisingIThenJ();
        noneCanBeAdded();
        flipEdgeOfNone();
        flipEdgeWithoutTriangulation();
        flipEdgeOfAnotherSegment();
        flipEdgeOfTheHull();
        flipEdgeThatIsNotCrossed();
        flipEdgeWithAPointWithin();
        flipEdgeOfNoneAheadOfNoTriangulation();
        lowerEndTenTimes();
        eitherEndFirst();
        edgeOfNone();
        edgeWithoutTriangulation();
        edgeToItself();
        edgeBothWays();
        triangulationsOfNone();
        triangulationsOfSeven();
        fewestAndMostTriangulations();
        Due.end();
    }

    private static void triangulateOfNone() {
        Due.by(29, "@throws IndexOutOfBoundsException if there is no such drawing");
        Refused.withoutDrawing("triangulate", (hall, drawing) -> hall.triangulate(drawing));
    }

    private static void fewestAndMostSegments() {
        Due.by(29, "@return how many segments it has then");
        for (int points = 3; points <= 7; points++) {
            int many = points;
            Due.same("segments on a hull of " + points, 2 * points - 3, () -> Halls.convex(many).triangulate(0));
        }
        Due.same("segments with a middle", 6, () -> Halls.middle().triangulate(0));
        TurnsHall nested = Halls.drawn(0, 0, 300, 0, 0, 300, 50, 51, 150, 54, 57, 150, 80, 83);
        Due.same("segments of seven, four within", 15, () -> nested.triangulate(0));
    }

    private static void triangulateAnew() {
        Due.by(29, "Triangulates a drawing anew.");
        TurnsHall hall = Halls.busy();
        Due.same("triangulate", 7, () -> hall.triangulate(1));
        Due.tell("edges, no more those of the flip", "01 02 03 04 12 23 34", Halls.edges(hall, 1));
        Due.same("triangulate again", 7, () -> hall.triangulate(1));
        Due.tell("edges as they were", "01 02 03 04 12 23 34", Halls.edges(hall, 1));
        Due.tell("edges beside", "01 02 03 12 13 23", Halls.edges(hall, 0));
        Due.yes("flip", hall.flip(1, 0, 1, 4));
        Due.same("triangulate after a flip", 8, () -> hall.triangulate(1));
    }

    private static void byRisingIThenJ() {
        Due.by("Terms", "to go through all segments i, j with i below j, by rising i, then j, and take each that crosses "
                + "none that was taken");
        TurnsHall crossed = Halls.drawn(0, 0, 10, 11, 0, 10, 10, 0);
        crossed.triangulate(0);
        Due.tell("the first is taken, not the last", "01 02 03 12 13", Halls.edges(crossed, 0));
        TurnsHall inner = Halls.drawn(0, 0, 10, 0, 10, 11, 0, 10);
        inner.triangulate(0);
        Due.tell("0 and 2 ahead of 1 and 3", "01 02 03 12 23", Halls.edges(inner, 0));
        TurnsHall first = Halls.drawn(0, 0, 10, 0, 0, 10, 10, 11);
        first.triangulate(0);
        Due.tell("0 and 3 ahead of 1 and 2", "01 02 03 13 23", Halls.edges(first, 0));
    }

    private static void noneCanBeAdded() {
        Due.by("Terms", "no two of which cross, to which none can be added");
        int[][] all = {
            {0, 0, 1000, -3, 500, 900, 480, 200, 510, 300, 400, 310, 610, 150},
            {0, 0, 300, 0, 0, 300, 50, 51, 150, 54, 57, 150, 80, 83},
            {480, 200, 0, 0, 610, 150, 1000, -3, 500, 900},
            {0, 0, 9, 0, 0, 9},
        };
        for (int[] xy : all) {
            TurnsHall hall = Halls.drawn(xy);
            hall.triangulate(0);
            int points = xy.length / 2;
            for (int[] one : SlowPlan.choices(points, 2)) {
                boolean crossed = false;
                for (int[] other : SlowPlan.choices(points, 2)) {
                    crossed |= SlowPlan.unlike(one[0], one[1], other[0], other[1])
                            && hall.cross(0, one[0], one[1], other[0], other[1]) && hall.edge(0, other[0], other[1]);
                }
                Due.tell("edge " + one[0] + ", " + one[1], "" + !crossed, "" + hall.edge(0, one[0], one[1]));
            }
        }
    }

    private static void flipEdgeOfNone() {
        Due.by(30, "@throws IndexOutOfBoundsException if there is no such drawing or point");
        Refused.withoutDrawing("flipEdge", (hall, drawing) -> hall.flipEdge(drawing, 0, 1));
        Refused.withoutPoint("flipEdge i", (hall, point) -> hall.flipEdge(0, point, 1));
        Refused.withoutPoint("flipEdge j", (hall, point) -> hall.flipEdge(0, 1, point));
        Refused.withoutPoint("flipEdge to itself", (hall, point) -> hall.flipEdge(0, point, point));
        Refused.index("flipEdge of point 5 of 5", Halls::busy, hall -> hall.flipEdge(1, 1, 5));
        Refused.index("flipEdge of point 3 of 3", Halls::full, hall -> hall.flipEdge(0, 3, 1));
    }

    private static void flipEdgeWithoutTriangulation() {
        Due.by(30, "@throws IllegalStateException if there is no triangulation");
        for (int[] ends : SlowPlan.choices(7, 2)) {
            Refused.state("flipEdge without one", Halls::busy, hall -> hall.flipEdge(2, ends[0], ends[1]));
        }
        Refused.state("flipEdge from a point to itself without one", Halls::busy, hall -> hall.flipEdge(2, 3, 3));
        Refused.state("flipEdge when a flip took it", () -> {
            TurnsHall hall = Halls.busy();
            hall.flip(1, 0, 1, 2);
            return hall;
        }, hall -> hall.flipEdge(1, 1, 3));
        Refused.state("flipEdge when other names took it", () -> {
            TurnsHall hall = Halls.busy();
            hall.rename(1, 0, 2);
            return hall;
        }, hall -> hall.flipEdge(1, 1, 3));
        Refused.state("flipEdge of a copy", () -> {
            TurnsHall hall = Halls.busy();
            hall.copy(1, false);
            return hall;
        }, hall -> hall.flipEdge(3, 1, 3));
    }

    private static void flipEdgeOfAnotherSegment() {
        Due.by(30, "the segment is not in it");
        int[][] others = {{0, 2}, {2, 0}, {1, 4}, {4, 1}, {2, 4}, {4, 2}};
        for (int[] ends : others) {
            Refused.state("flipEdge " + ends[0] + ", " + ends[1], Halls::busy,
                    hall -> hall.flipEdge(1, ends[0], ends[1]));
        }
        for (int point = 0; point < 5; point++) {
            int both = point;
            Refused.state("flipEdge to itself", Halls::busy, hall -> hall.flipEdge(1, both, both));
        }
    }

    private static void flipEdgeOfTheHull() {
        Due.by(30, "or cannot be flipped");
        int[][] sides = {{0, 1}, {1, 2}, {2, 3}, {3, 4}, {4, 0}, {0, 4}, {3, 2}};
        for (int[] ends : sides) {
            Refused.state("flipEdge of a side", Halls::busy, hall -> hall.flipEdge(1, ends[0], ends[1]));
        }
        for (int[] ends : SlowPlan.choices(3, 2)) {
            Refused.state("flipEdge of three", Halls::full, hall -> hall.flipEdge(0, ends[0], ends[1]));
        }
    }

    private static void flipEdgeThatIsNotCrossed() {
        Due.by("Terms", "and k, l crosses i, j; then k, l is in it in place of i, j");
        for (int corner = 0; corner < 3; corner++) {
            int from = corner;
            Refused.state("flipEdge from the middle to " + corner, Halls::busy, hall -> hall.flipEdge(0, 3, from));
            Refused.state("flipEdge to the middle from " + corner, Halls::busy, hall -> hall.flipEdge(0, from, 3));
        }
        TurnsHall dart = dart();
        Due.noState("flipEdge into the outside", () -> dart.flipEdge(0, 1, 3));
        Due.same("flipEdge that is crossed", 34, () -> dart.flipEdge(0, 0, 1));
        Due.tell("edges then", "02 03 04 12 13 14 23 34", Halls.edges(dart, 0));
    }

    /** Three corners 0, 1, 2 and a point 3 within, and a point 4 outside of the side 0, 1. */
    private static TurnsHall dart() {
        TurnsHall hall = Halls.drawn(0, 0, 90, 0, 0, 90, 20, 21, 30, -40);
        hall.triangulate(0);
        return hall;
    }

    private static void flipEdgeWithAPointWithin() {
        Due.by("Terms", "such that i, k and j, k are in it, and no point lies within i, j, k; "
                + "and a point l with the sign -1 likewise");
        TurnsHall dart = dart();
        Due.tell("edges", "01 02 03 04 12 13 14 23", Halls.edges(dart, 0));
        Due.same("flipEdge, by 3, not by 2, which has 3 within", 34, () -> dart.flipEdge(0, 1, 0));
        Due.same("flipEdge back", 1, () -> dart.flipEdge(0, 3, 4));
        dart.copy(0, true);
        dart.triangulate(1);
        Due.same("flipEdge of the mirror", 34, () -> dart.flipEdge(1, 0, 1));
    }

    private static void flipEdgeOfNoneAheadOfNoTriangulation() {
        Due.by("Terms", "the one that its comment lists first is thrown");
        for (int point : new int[] {-1, 7, LEAST, GREATEST}) {
            Refused.index("flipEdge from " + point, Halls::busy, hall -> hall.flipEdge(2, point, 0));
            Refused.index("flipEdge to " + point, Halls::busy, hall -> hall.flipEdge(2, 0, point));
            Refused.index("flipEdge to itself, " + point, Halls::busy, hall -> hall.flipEdge(2, point, point));
        }
    }

    private static void lowerEndTenTimes() {
        Due.by(30, "@return 10 times the lower end of the new segment, and the higher one, together");
        for (int[] order : SlowPlan.permutations(4)) {
            int[] xy = {0, 0, 10, 0, 10, 11, 0, 10};
            int[] names = new int[4];
            for (int at = 0; at < 4; at++) {
                names[order[at]] = at;
            }
            TurnsHall hall = Halls.named(xy, order);
            hall.triangulate(0);
            boolean first = hall.edge(0, names[0], names[2]);
            int i = first ? names[0] : names[1];
            int j = first ? names[2] : names[3];
            int due = first ? SlowPlan.key(names[1], names[3]) : SlowPlan.key(names[0], names[2]);
            Due.same("flipEdge " + i + ", " + j, due, () -> hall.flipEdge(0, i, j));
            Due.same("flipEdge back", SlowPlan.key(i, j), () -> hall.flipEdge(0, due % 10, due / 10));
        }
        TurnsHall seven = Halls.convex(7);
        seven.triangulate(0);
        Due.same("flipEdge of 0, 5: into the highest point", 46, () -> seven.flipEdge(0, 0, 5));
        Due.same("flipEdge of 0, 2: away from the lowest point", 13, () -> seven.flipEdge(0, 0, 2));
        Due.same("flipEdge of 1, 3: into the lowest point", 2, () -> seven.flipEdge(0, 3, 1));
    }

    private static void eitherEndFirst() {
        Due.by("Terms", "A segment i, j of it can be flipped, if there is a point k with the sign 1 with i, j");
        for (int turned = 0; turned < 2; turned++) {
            boolean back = turned == 1;
            TurnsHall hall = Halls.convex(4);
            hall.triangulate(0);
            Due.same("flipEdge of 0, 2", 13, () -> back ? hall.flipEdge(0, 2, 0) : hall.flipEdge(0, 0, 2));
            Due.same("flipEdge of 1, 3", 2, () -> back ? hall.flipEdge(0, 3, 1) : hall.flipEdge(0, 1, 3));
            Due.tell("edges", "01 02 03 12 23", Halls.edges(hall, 0));
        }
    }

    private static void edgeOfNone() {
        Due.by(31, "@throws IndexOutOfBoundsException if there is no such drawing or point");
        Refused.withoutDrawing("edge", (hall, drawing) -> hall.edge(drawing, 0, 1));
        Refused.withoutDrawing("edge to itself", (hall, drawing) -> hall.edge(drawing, 0, 0));
        Refused.withoutPoint("edge i", (hall, point) -> hall.edge(0, point, 1));
        Refused.withoutPoint("edge j", (hall, point) -> hall.edge(0, 1, point));
        Refused.withoutPoint("edge to itself", (hall, point) -> hall.edge(0, point, point));
        Refused.index("edge of point 7 without a triangulation", Halls::busy, hall -> hall.edge(2, 7, 0));
        Refused.index("edge of point 3 of 3", Halls::full, hall -> hall.edge(0, 0, 3));
    }

    private static void edgeWithoutTriangulation() {
        Due.by(31, "not without one");
        TurnsHall hall = Halls.busy();
        for (int[] ends : SlowPlan.choices(7, 2)) {
            Due.no("edge", hall.edge(2, ends[0], ends[1]));
        }
        Due.no("edge to itself", hall.edge(2, 0, 0));
    }

    private static void edgeToItself() {
        Due.by(31, "and not from a point to itself");
        for (int points = 3; points <= 7; points++) {
            TurnsHall hall = Halls.convex(points);
            hall.triangulate(0);
            for (int point = 0; point < points; point++) {
                Due.no("edge from " + point + " to itself", hall.edge(0, point, point));
            }
        }
    }

    private static void edgeBothWays() {
        Due.by(31, "@return whether it is");
        for (int points = 3; points <= 7; points++) {
            TurnsHall hall = Halls.convex(points);
            hall.triangulate(0);
            for (int[] ends : SlowPlan.choices(points, 2)) {
                boolean due = ends[0] == 0 || ends[1] == ends[0] + 1;
                Due.tell("edge i, j", "" + due, "" + hall.edge(0, ends[0], ends[1]));
                Due.tell("edge j, i", "" + due, "" + hall.edge(0, ends[1], ends[0]));
            }
        }
    }

    private static void triangulationsOfNone() {
        Due.by(32, "@throws IndexOutOfBoundsException if there is no such drawing");
        Refused.withoutDrawing("triangulations", (hall, drawing) -> hall.triangulations(drawing));
    }

    private static void triangulationsOfSeven() {
        Due.by(32, "@throws IllegalStateException if it has 7 points");
        Refused.state("triangulations of seven", Halls::full, hall -> hall.triangulations(5));
        Refused.state("triangulations of seven by a word", Halls::busy, hall -> hall.triangulations(2));
        Due.same("triangulations of six", 14, () -> Halls.full().triangulations(4));
    }

    private static void fewestAndMostTriangulations() {
        Due.by(32, "Counts all triangulations that a drawing can have.");
        int[] due = {0, 0, 0, 1, 2, 5, 14};
        for (int points = 3; points <= 6; points++) {
            int many = points;
            Due.same("triangulations on a hull of " + points, due[points],
                    () -> Halls.convex(many).triangulations(0));
        }
        Due.same("triangulations with a middle", 1, () -> Halls.middle().triangulations(0));
        for (int[] order : SlowPlan.permutations(4)) {
            TurnsHall hall = Halls.named(new int[] {0, 0, 10, 0, 10, 11, 0, 10}, order);
            Due.same("triangulations of four on a hull under any names", 2, () -> hall.triangulations(0));
        }
        TurnsHall busy = Halls.busy();
        Due.same("triangulations of a flipped one", 5, () -> busy.triangulations(1));
        Due.tell("the flipped one stays", "01 03 04 12 13 23 34", Halls.edges(busy, 1));
    }
}
