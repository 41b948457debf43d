/** Promises 29 to 32: triangulations and their flips. */
public final class TriangulationsTest {
    public static void main(String[] args) {
        triangulating();
        flippingEdges();
        edgesThatCannotBeFlipped();
        wrongEdges();
        edges();
        counting();
        Due.end();
    }

    private static void triangulating() {
        for (int points = 3; points <= 7; points++) {
            TurnsHall hall = Halls.convex(points);
            Due.same("segments on a hull of " + points, 2 * points - 3, () -> hall.triangulate(0));
        }
        TurnsHall square = Halls.convex(4);
        Due.same("triangulate", 5, () -> square.triangulate(0));
        Due.tell("those taken first", "01 02 03 12 23", Halls.edges(square, 0));
        square.flipEdge(0, 0, 2);
        Due.tell("those after a flip", "01 03 12 13 23", Halls.edges(square, 0));
        Due.same("triangulate anew", 5, () -> square.triangulate(0));
        Due.tell("those taken anew", "01 02 03 12 23", Halls.edges(square, 0));
        TurnsHall middle = Halls.middle();
        Due.same("triangulate with a middle", 6, () -> middle.triangulate(0));
        Due.tell("those with a middle", "01 02 03 12 13 23", Halls.edges(middle, 0));
        Due.yes("triangulate leaves the numbers", middle.hasNumbers(0));
        middle.copy(0, false);
        Due.no("another drawing has no triangulation", middle.edge(1, 0, 1));
    }

    private static void flippingEdges() {
        TurnsHall five = Halls.convex(5);
        five.triangulate(0);
        Due.same("flip of 0, 2", 13, () -> five.flipEdge(0, 0, 2));
        Due.tell("after it", "01 03 04 12 13 23 34", Halls.edges(five, 0));
        Due.same("flip of 3, 0, the higher end first", 14, () -> five.flipEdge(0, 3, 0));
        Due.tell("after both", "01 04 12 13 14 23 34", Halls.edges(five, 0));
        Due.same("flip back", 3, () -> five.flipEdge(0, 1, 4));
        Due.tell("after it went back", "01 03 04 12 13 23 34", Halls.edges(five, 0));
        Due.yes("flips of segments leave the numbers", five.hasNumbers(0));
        for (int i = 0; i < 4; i++) {
            TurnsHall four = Halls.convex(4);
            four.triangulate(0);
            int low = i % 2;
            int high = low + 2;
            int due = i % 2 == 0 ? 13 : 2;
            if (low == 1) {
                four.flipEdge(0, 0, 2);
            }
            boolean turned = i > 1;
            Due.same("flip of " + low + ", " + high, due,
                    () -> four.flipEdge(0, turned ? high : low, turned ? low : high));
        }
        TurnsHall hall = Halls.drawn(0, 0, 10, 11, 0, 10, 10, 0);
        Due.same("triangulate where the first and the last two cross", 5, () -> hall.triangulate(0));
        Due.tell("the first is taken", "01 02 03 12 13", Halls.edges(hall, 0));
        Due.same("flip into the last one", 23, () -> hall.flipEdge(0, 1, 0));
    }

    private static void edgesThatCannotBeFlipped() {
        TurnsHall middle = Halls.middle();
        middle.triangulate(0);
        for (int i = 0; i < 4; i++) {
            for (int j = 0; j < 4; j++) {
                int one = i;
                int other = j;
                Due.noState("flip of " + i + ", " + j + " with a middle", () -> middle.flipEdge(0, one, other));
            }
        }
        Due.tell("nothing was changed", "01 02 03 12 13 23", Halls.edges(middle, 0));
    }

    private static void wrongEdges() {
        TurnsHall hall = Halls.convex(4);
        Due.noState("flip without a triangulation", () -> hall.flipEdge(0, 0, 2));
        Due.noIndex("flip of point 4 without a triangulation", () -> hall.flipEdge(0, 0, 4));
        hall.triangulate(0);
        Due.noState("flip of a segment that is not in it", () -> hall.flipEdge(0, 1, 3));
        Due.noState("flip of a side", () -> hall.flipEdge(0, 0, 1));
        Due.noState("flip from a point to itself", () -> hall.flipEdge(0, 2, 2));
        Due.noIndex("flip of point 4", () -> hall.flipEdge(0, 4, 0));
        Due.noIndex("flip of point -1", () -> hall.flipEdge(0, 0, -1));
        Due.noIndex("flip of drawing 1", () -> hall.flipEdge(1, 0, 2));
        Due.tell("nothing was changed", "01 02 03 12 23", Halls.edges(hall, 0));
        hall.rename(0, 0, 1);
        Due.noState("flip after other names", () -> hall.flipEdge(0, 1, 2));
    }

    private static void edges() {
        TurnsHall hall = Halls.convex(4);
        Due.no("edge without a triangulation", hall.edge(0, 0, 1));
        Due.no("edge to itself without a triangulation", hall.edge(0, 0, 0));
        hall.triangulate(0);
        Due.yes("edge 0, 2", hall.edge(0, 0, 2));
        Due.yes("edge 2, 0", hall.edge(0, 2, 0));
        Due.no("edge 1, 3", hall.edge(0, 1, 3));
        for (int point = 0; point < 4; point++) {
            Due.no("edge to itself", hall.edge(0, point, point));
        }
        Due.noIndex("edge from 4", () -> hall.edge(0, 4, 0) ? 1 : 0);
        Due.noIndex("edge to 4", () -> hall.edge(0, 0, 4) ? 1 : 0);
        Due.noIndex("edge from -1", () -> hall.edge(0, -1, 0) ? 1 : 0);
        Due.noIndex("edge of 4 to itself", () -> hall.edge(0, 4, 4) ? 1 : 0);
    }

    private static void counting() {
        int[] catalan = {0, 0, 0, 1, 2, 5, 14};
        for (int points = 3; points <= 6; points++) {
            int many = points;
            Due.same("triangulations on a hull of " + points, catalan[points],
                    () -> Halls.convex(many).triangulations(0));
        }
        Due.noState("triangulations of seven", () -> Halls.convex(7).triangulations(0));
        TurnsHall middle = Halls.middle();
        middle.triangulate(0);
        Due.same("triangulations with a middle", 1, () -> middle.triangulations(0));
        Due.yes("the triangulation stays", middle.edge(0, 0, 3));
        TurnsHall two = Halls.drawn(0, 0, 100, 1, 0, 100, 30, 30, 60, 20, 20, 61);
        Due.same("triangulations of two threes", 8, () -> two.triangulations(0));
    }
}
