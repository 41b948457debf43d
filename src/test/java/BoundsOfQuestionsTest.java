/** Promises 13 to 20 and what the terms say of hulls and layers: a test for each sentence with a boundary. */
public final class BoundsOfQuestionsTest {
    private static final int LEAST = Integer.MIN_VALUE;
    private static final int GREATEST = Integer.MAX_VALUE;

    public static void main(String[] args) {
        fewestAndMostDrawings();
        pointsOfNone();
        fewestAndMostPoints();
        hasNumbersOfNone();
        numbersThatComeAndGo();
        numberOfNone();
        numberWithoutNumbers();
        numberOfNoneAheadOfNoNumbers();
        flipsOfNone();
        fewestAndMostFlips();
        hullOfNone();
        placeBelowZero();
        hullEndsAfterItsLast();
        hullBeginsWithTheLowest();
        hullGoesRound();
        layerOfNone();
        layersOfOneOrTwo();
        layersAndSoOn();
        questionsChangeNothing();
        Due.end();
    }

    private static void fewestAndMostDrawings() {
        Due.by(13, "Returns how many drawings there are.");
        Due.same("drawings of a new hall", 0, () -> new TurnsHall().drawings());
        Due.same("drawings of a busy hall", Halls.BUSY_DRAWINGS, () -> Halls.busy().drawings());
        Due.same("drawings of a full hall", 6, () -> Halls.full().drawings());
        TurnsHall hall = Halls.full();
        Due.noState("draw", hall::draw);
        Due.same("drawings after a refused one", 6, hall::drawings);
    }

    private static void pointsOfNone() {
        Due.by(14, "@throws IndexOutOfBoundsException if there is no such drawing");
        Refused.withoutDrawing("points", (hall, drawing) -> hall.points(drawing));
    }

    private static void fewestAndMostPoints() {
        Due.by(14, "@return how many");
        for (int points = 3; points <= 7; points++) {
            int many = points;
            Due.same("points", many, () -> Halls.convex(many).points(0));
        }
        int[] due = {3, 3, 4, 5, 6, 7};
        for (int drawing = 0; drawing < 6; drawing++) {
            int d = drawing;
            Due.same("points of " + d, due[d], () -> Halls.full().points(d));
        }
    }

    private static void hasNumbersOfNone() {
        Due.by(15, "@throws IndexOutOfBoundsException if there is no such drawing");
        Refused.withoutDrawing("hasNumbers", (hall, drawing) -> hall.hasNumbers(drawing));
    }

    private static void numbersThatComeAndGo() {
        Due.by(15, "@return whether it has");
        TurnsHall hall = Halls.full();
        Due.no("hasNumbers of the first, by a word", hall.hasNumbers(0));
        Due.yes("hasNumbers of the last, of the shelf", hall.hasNumbers(5));
        Due.yes("realize", hall.realize(0));
        Due.yes("hasNumbers when they were given", hall.hasNumbers(0));
        Due.yes("flip", hall.flip(5, 0, 1, 2));
        Due.no("hasNumbers when it was flipped", hall.hasNumbers(5));
        Due.no("flip that is not done", hall.flip(4, 0, 2, 4));
        Due.yes("hasNumbers then", hall.hasNumbers(4));
    }

    private static void numberOfNone() {
        Due.by(16, "@throws IndexOutOfBoundsException if there is no such drawing or point");
        Refused.withoutDrawing("x", (hall, drawing) -> hall.number(drawing, 0, false));
        Refused.withoutPoint("x", (hall, point) -> hall.number(0, point, false));
        Refused.withoutPoint("y", (hall, point) -> hall.number(0, point, true));
        Refused.index("y of point 7 of 7", Halls::full, hall -> hall.number(5, 7, true));
        Refused.index("y of point 3 of 3", Halls::full, hall -> hall.number(1, 3, true));
        Due.same("x of point 6 of 7", 60, () -> Halls.full().number(5, 6, false));
        Due.same("y of point 2 of 3", 40, () -> Halls.full().number(1, 2, true));
    }

    private static void numberWithoutNumbers() {
        Due.by(16, "@throws IllegalStateException if it has no numbers");
        Refused.state("x of a word's drawing", Halls::busy, hall -> hall.number(2, 0, false));
        Refused.state("y of its last point", Halls::busy, hall -> hall.number(2, 6, true));
        Refused.state("x when a flip took the numbers", () -> {
            TurnsHall hall = Halls.busy();
            hall.flip(0, 0, 1, 3);
            return hall;
        }, hall -> hall.number(0, 0, false));
        Refused.state("x of a copy", () -> {
            TurnsHall hall = Halls.busy();
            hall.copy(0, false);
            return hall;
        }, hall -> hall.number(3, 0, false));
    }

    private static void numberOfNoneAheadOfNoNumbers() {
        Due.by("Terms", "the one that its comment lists first is thrown");
        for (int point : new int[] {-1, 7, LEAST, GREATEST}) {
            Refused.index("x of point " + point, Halls::busy, hall -> hall.number(2, point, false));
        }
        Refused.index("x of point 3 of 3", Halls::full, hall -> hall.number(0, 3, false));
    }

    private static void flipsOfNone() {
        Due.by(18, "@throws IndexOutOfBoundsException if there is no such drawing");
        Refused.withoutDrawing("flips", (hall, drawing) -> hall.flips(drawing));
    }

    private static void fewestAndMostFlips() {
        Due.by(18, "Counts the three points that can be flipped.");
        int[] due = {0, 0, 0, 1, 4, 5, 6, 7};
        for (int points = 3; points <= 7; points++) {
            int many = points;
            Due.same("flips on a hull of " + points, due[points], () -> Halls.convex(many).flips(0));
        }
        Due.same("flips with a middle", 3, () -> Halls.middle().flips(0));
        for (int[] t : SlowPlan.choices(4, 3)) {
            TurnsHall hall = Halls.convex(4);
            Due.yes("flip of any of four", hall.flip(0, t[0], t[1], t[2]));
            Due.same("flips then", 3, () -> hall.flips(0));
        }
    }

    private static void hullOfNone() {
        Due.by(19, "@throws IndexOutOfBoundsException if there is no such drawing");
        Refused.withoutDrawing("hull", (hall, drawing) -> hall.hull(drawing, 0));
        Refused.withoutDrawing("hull far on", (hall, drawing) -> hall.hull(drawing, GREATEST));
        Refused.withoutDrawing("hull of a place below 0", (hall, drawing) -> hall.hull(drawing, -1));
    }

    private static void placeBelowZero() {
        Due.by(19, "or place is below 0");
        for (int place : new int[] {-1, -2, -7, LEAST}) {
            Refused.index("hull of place " + place, Halls::busy, hall -> hall.hull(0, place));
            Refused.index("hull of place " + place, Halls::full, hall -> hall.hull(5, place));
        }
    }

    private static void hullEndsAfterItsLast() {
        Due.by(19, "NONE if it has not so many");
        for (int points = 3; points <= 7; points++) {
            TurnsHall hall = Halls.convex(points);
            int last = points - 1;
            Due.same("hull of the last place", last, () -> hall.hull(0, last));
            for (int place : new int[] {points, points + 1, 2 * points, 7, 8, GREATEST - 1, GREATEST}) {
                Due.same("hull of place " + place, TurnsHall.NONE, () -> hall.hull(0, place));
            }
        }
        TurnsHall middle = Halls.middle();
        Due.same("hull of place 2 of 3", 2, () -> middle.hull(0, 2));
        Due.same("hull of place 3, as many as it has", TurnsHall.NONE, () -> middle.hull(0, 3));
    }

    /** The corners have the places 0, 1, 2 of the order, the one within the place 3. */
    private static TurnsHall middleNamed(int[] order) {
        return Halls.named(new int[] {0, 0, 90, 0, 0, 90, 20, 21}, order);
    }

    private static void hullBeginsWithTheLowest() {
        Due.by("Terms", "it begins with the lowest one");
        for (int[] order : SlowPlan.permutations(4)) {
            TurnsHall hall = middleNamed(order);
            int lowest = order[0] == 3 ? 1 : 0;
            Due.same("the first of the hull", lowest, () -> hall.hull(0, 0));
        }
        for (int points = 3; points <= 7; points++) {
            TurnsHall back = Halls.convex(points);
            back.copy(0, true);
            int last = points - 1;
            Due.same("the first of the mirror", 0, () -> back.hull(1, 0));
            Due.same("the second of the mirror", last, () -> back.hull(1, 1));
            Due.same("the last of the mirror", 1, () -> back.hull(1, last));
        }
    }

    private static void hullGoesRound() {
        Due.by("Terms", "The hull of a drawing goes round so: each of its points is followed by that other one");
        for (int[] order : SlowPlan.permutations(4)) {
            TurnsHall hall = middleNamed(order);
            for (int place = 0; place < 3; place++) {
                int from = hall.hull(0, place);
                int to = hall.hull(0, (place + 1) % 3);
                for (int other = 0; other < 4; other++) {
                    if (other != from && other != to) {
                        int point = other;
                        Due.same("sign at the hull", 1, () -> hall.sign(0, from, to, point));
                    }
                }
            }
        }
    }

    private static void layerOfNone() {
        Due.by(20, "@throws IndexOutOfBoundsException if there is no such drawing or point");
        Refused.withoutDrawing("layer", (hall, drawing) -> hall.layer(drawing, 0));
        Refused.withoutPoint("layer", (hall, point) -> hall.layer(0, point));
        Refused.index("layer of point 7 of 7", Halls::busy, hall -> hall.layer(2, 7));
        Refused.index("layer of point 3 of 3", Halls::full, hall -> hall.layer(0, 3));
    }

    /** Looks at the layers of points that are named in order, and once more with the names turned round by each step. */
    private static void layersAre(String due, int... xy) {
        int points = due.length();
        for (int step = 0; step < points; step++) {
            int[] order = new int[points];
            for (int at = 0; at < points; at++) {
                order[at] = (at + step) % points;
            }
            TurnsHall hall = Halls.named(xy, order);
            StringBuilder layers = new StringBuilder();
            for (int at = 0; at < points; at++) {
                layers.append(Due.outcome(layerAt(hall, (at + points - step) % points)));
            }
            Due.tell("layers", due, layers.toString());
        }
    }

    private static Due.Call layerAt(TurnsHall hall, int point) {
        return () -> hall.layer(0, point);
    }

    private static void layersOfOneOrTwo() {
        Due.by("Terms", "of one or two points, all are");
        layersAre("0001", 0, 0, 90, 0, 0, 90, 20, 21);
        layersAre("00011", 0, 0, 90, 0, 0, 90, 20, 21, 30, 10);
        layersAre("00001", 0, 0, 90, 0, 91, 90, 0, 92, 20, 21);
        layersAre("000011", 0, 0, 90, 0, 91, 90, 0, 92, 20, 21, 40, 35);
        layersAre("0000011", 0, 0, 90, 0, 120, 60, 91, 100, 0, 92, 20, 21, 40, 35);
        layersAre("0001112", 0, 0, 300, 0, 0, 300, 50, 51, 150, 54, 57, 150, 80, 83);
    }

    private static void layersAndSoOn() {
        Due.by("Terms", "The layer 0 are the points of the hull; the layer 1 those of the hull of the others, and so on.");
        layersAre("000", 0, 0, 90, 0, 0, 90);
        layersAre("0000000", 0, 0, 10, 10, 20, 40, 30, 90, 40, 160, 50, 250, 60, 360);
        layersAre("000111", 0, 0, 300, 0, 0, 300, 50, 51, 150, 54, 57, 150);
        layersAre("0001111", 0, 0, 300, 0, 0, 300, 50, 51, 150, 54, 57, 150, 110, 112);
        layersAre("0001112", 0, 0, 300, 0, 0, 300, 50, 51, 150, 54, 57, 150, 80, 83);
    }

    private static void questionsChangeNothing() {
        Due.by("Not promised", "Nothing is promised beyond the answers and state changes described above");
        for (int part = 0; part < Picture.PARTS; part++) {
            TurnsHall hall = Halls.busy();
            for (int d = 0; d < Halls.BUSY_DRAWINGS; d++) {
                askAll(hall, d);
            }
            Due.tell("what is there after all questions", Picture.of(Halls.busy(), part), Picture.of(hall, part));
        }
    }

    private static void askAll(TurnsHall hall, int d) {
        hall.drawings();
        hall.points(d);
        hall.hasNumbers(d);
        hall.sign(d, 0, 1, 2);
        hall.flips(d);
        hall.hull(d, 2);
        hall.layer(d, 3);
        hall.cross(d, 0, 1, 2, 3);
        hall.crossings(d);
        hall.empties(d);
        hall.level(d, 1);
        hall.matchings(d, 15);
        hall.paths(d);
        hall.canonical(d, true);
        hall.edge(d, 0, 1);
        hall.fault(3 + d);
        if (hall.points(d) <= 5) {
            hall.extensions(d);
            hall.triangulations(d);
        }
    }
}
