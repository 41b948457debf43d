/** Promises 7 to 12 and what the terms say of making and changing drawings: a test for each sentence with a boundary. */
public final class BoundsOfDrawingsTest {
    private static final int LEAST = Integer.MIN_VALUE;
    private static final int GREATEST = Integer.MAX_VALUE;

    public static void main(String[] args) {
        sixDrawings();
        fewestAndMostPoints();
        tooFewPointsToDraw();
        noRoomToDraw();
        drawnInItsOrder();
        drawnSmallAndWide();
        linesToWire();
        noRoomToWire();
        wrongWordToWire();
        rangeAheadOfRoomAndWord();
        whatWireLeaves();
        copyOfNone();
        noRoomToCopy();
        noDrawingAheadOfNoRoom();
        copyWithoutNumbers();
        flipOfNone();
        flipOfPointsAlike();
        flipOfNoneAheadOfAlike();
        flipOfThree();
        whatAFlipTakes();
        whatAFlipThatFailsLeaves();
        renameOfNone();
        renameOfPointsAlike();
        renameOfNoneAheadOfAlike();
        numbersGoAlong();
        namesTakeTriangulations();
        realizeOfNone();
        realizeByOtherCounts();
        realizeByOtherSigns();
        realizeByRightSigns();
        Due.end();
    }

    private static void sixDrawings() {
        Due.by("Terms", "Drawings are numbered from 0, at most 6");
        TurnsHall hall = new TurnsHall();
        for (int at = 0; at < 6; at++) {
            int due = at;
            Due.same("drawings", due, hall::drawings);
            switch (at % 3) {
                case 0 -> Due.same("draw " + at, due, () -> Halls.draw(hall, 0, 0, 1, 0, 0, 1, 1, 1));
                case 1 -> {
                    Halls.spellAll(hall, 5);
                    Due.same("wire " + at, due, () -> hall.wire(5));
                }
                default -> Due.same("copy " + at, due, () -> hall.copy(due - 1, true));
            }
        }
        for (int at = 0; at < 6; at++) {
            int drawing = at;
            Due.same("points of " + at, at % 3 == 0 ? 4 : 5, () -> hall.points(drawing));
        }
        Halls.shelveHull(hall, 3);
        Halls.spellAll(hall, 3);
        Due.noState("a seventh by draw", hall::draw);
        Due.noState("a seventh by wire", () -> hall.wire(3));
        Due.noState("a seventh by copy", () -> hall.copy(5, false));
        Due.same("drawings", 6, hall::drawings);
    }

    private static void fewestAndMostPoints() {
        Due.by("Terms", "a drawing has 3 to 7 points, numbered from 0");
        for (int points = 3; points <= 7; points++) {
            int many = points;
            TurnsHall hall = Halls.convex(points);
            Halls.spellAll(hall, points);
            Due.same("wire", 1, () -> hall.wire(many));
            for (int drawing = 0; drawing < 2; drawing++) {
                int d = drawing;
                Due.same("points", many, () -> hall.points(d));
                Due.same("sign of the first", 1, () -> hall.sign(d, 0, 1, 2));
                Due.same("sign of the last", 1, () -> hall.sign(d, many - 3, many - 2, many - 1));
                Due.noIndex("sign of one more", () -> hall.sign(d, many, 0, 1));
                Due.noIndex("sign of one below", () -> hall.sign(d, -1, 0, 1));
            }
        }
    }

    private static TurnsHall withPoints(int points) {
        TurnsHall hall = Halls.busy();
        hall.clear();
        Halls.shelveHull(hall, points);
        return hall;
    }

    private static void tooFewPointsToDraw() {
        Due.by(7, "@throws IllegalStateException if there are fewer than 3 points");
        for (int points = 0; points <= 2; points++) {
            int many = points;
            Refused.state("draw of " + points, () -> withPoints(many), TurnsHall::draw);
        }
        for (int points = 3; points <= 7; points++) {
            int many = points;
            Due.same("draw of " + points, Halls.BUSY_DRAWINGS, () -> withPoints(many).draw());
        }
        TurnsHall drawn = Halls.convex(7);
        Due.noState("draw again", drawn::draw);
    }

    private static void noRoomToDraw() {
        Due.by(7, "or 6 drawings");
        Refused.state("a seventh draw", Halls::full, TurnsHall::draw);
        Refused.state("a seventh draw of nothing", () -> {
            TurnsHall hall = Halls.full();
            hall.clear();
            return hall;
        }, TurnsHall::draw);
    }

    private static void drawnInItsOrder() {
        Due.by("Terms", "it has these numbers then, and the shelf is empty");
        TurnsHall hall = new TurnsHall();
        Halls.spell(hall, 3);
        Halls.shelve(hall, -1000, 1000, 1000, -1000, 0, -7);
        Due.same("draw", 0, hall::draw);
        Due.same("clear", 0, hall::clear);
        Due.same("the word stays", 1, hall::wipe);
        Due.tell("what was made", "of 1, number 0: - numbers -1000,1000 1000,-1000 0,-7 edges ",
                Picture.drawing(hall, 0));
        Due.by("Terms", "A drawing can be made of the shelf, in its order");
        Halls.shelve(hall, 0, -7, -1000, 1000, 1000, -1000);
        Due.same("draw", 1, hall::draw);
        Due.same("x of 0", 0, () -> hall.number(1, 0, false));
        Due.same("x of 1", -1000, () -> hall.number(1, 1, false));
    }

    private static void drawnSmallAndWide() {
        Due.by("Terms", "the sign of i, j, k is that of (xj - xi) * (yk - yi) - (xk - xi) * (yj - yi)");
        int[][] left = {
            {0, 0, 1, 0, 0, 1},
            {-1000, -1000, 1000, -1000, -1000, 1000},
            {1000, 1000, -1000, 1000, 1000, -1000},
            {-1000, -1000, 999, 1000, 998, 999},
            {-1000, -1000, 1000, -1000, 1000, 1000},
        };
        for (int[] xy : left) {
            Due.tell("the sign of 3 that turn left", "+", Halls.signs(Halls.drawn(xy), 0));
            TurnsHall back = Halls.drawn(xy[4], xy[5], xy[2], xy[3], xy[0], xy[1]);
            Due.tell("the sign of them backward", "-", Halls.signs(back, 0));
        }
        Due.tell("the sign of 3 hardly to the right", "-",
                Halls.signs(Halls.drawn(-1000, -1000, 999, 1000, -999, -999), 0));
    }

    private static void linesToWire() {
        Due.by(8, "@param lines 3 to 7");
        for (int lines = 3; lines <= 7; lines++) {
            int many = lines;
            TurnsHall hall = new TurnsHall();
            Halls.spellAll(hall, lines);
            Due.same("wire(" + lines + ")", 0, () -> hall.wire(many));
        }
        Due.by(8, "@throws IllegalArgumentException if lines is out of its range");
        for (int lines : new int[] {2, 8, 0, -1, LEAST, LEAST + 1, GREATEST}) {
            Refused.argument("wire(" + lines + ")", TurnsHall::new, hall -> hall.wire(lines));
            Refused.argument("wire(" + lines + ")", Halls::busy, hall -> hall.wire(lines));
        }
        Refused.argument("wire(2) of a word of one letter", () -> spelled(0), hall -> hall.wire(2));
    }

    private static TurnsHall spelled(int... letters) {
        TurnsHall hall = Halls.middle();
        Halls.spell(hall, letters);
        return hall;
    }

    private static void noRoomToWire() {
        Due.by(8, "@throws IllegalStateException if there are 6 drawings");
        Refused.state("a seventh wire", Halls::full, hall -> hall.wire(3));
        Refused.state("a seventh wire of a wrong word", Halls::full, hall -> hall.wire(4));
    }

    private static void wrongWordToWire() {
        Due.by(8, "or otherwise the word is not right");
        Refused.state("wire of no letters", TurnsHall::new, hall -> hall.wire(3));
        Refused.state("wire of no letters beside a drawing", BoundsOfDrawingsTest::spelled, hall -> hall.wire(7));
        Refused.state("wire of a letter too few", () -> spelled(0, 1), hall -> hall.wire(3));
        Refused.state("wire of a letter too many", () -> spelled(0, 1, 0, 1), hall -> hall.wire(3));
        Refused.state("wire of a letter above", () -> spelled(0, 2, 1), hall -> hall.wire(3));
        Refused.state("wire of a letter above at the end", () -> spelled(0, 1, 0, 2), hall -> hall.wire(3));
        Refused.state("wire of a letter twice", () -> spelled(0, 0, 1), hall -> hall.wire(3));
        Refused.state("wire for a line too many", Halls::busy, hall -> hall.wire(4));
        Refused.state("wire for a line too few", () -> spelled(0, 2, 1, 0, 2, 1), hall -> hall.wire(3));
        Refused.state("wire of 21 letters, the last one wrong", () -> spelled(
                0, 1, 0, 2, 1, 0, 3, 2, 1, 0, 4, 3, 2, 1, 0, 5, 4, 3, 2, 1, 1), hall -> hall.wire(7));
    }

    private static void rangeAheadOfRoomAndWord() {
        Due.by("Terms", "the one that its comment lists first is thrown");
        Refused.argument("wire(2) when there are 6 drawings", Halls::full, hall -> hall.wire(2));
        Refused.argument("wire(8) when there are 6 drawings", Halls::full, hall -> hall.wire(8));
        Refused.argument("wire(8) of a wrong word", () -> spelled(0, 0), hall -> hall.wire(8));
    }

    private static void whatWireLeaves() {
        Due.by("Terms", "it has no numbers, and the word is empty then");
        TurnsHall hall = Halls.busy();
        Due.same("wire(3)", 3, () -> hall.wire(3));
        Due.no("hasNumbers", hall.hasNumbers(3));
        Due.same("the shelf stays", 3, hall::clear);
        Due.same("wipe", 0, hall::wipe);
        Due.same("fault", 0, () -> hall.fault(3));
        Due.noState("wire again", () -> hall.wire(3));
        Due.tell("the drawing beside", Picture.drawing(Halls.busy(), 0).replace("of 3", "of 4"),
                Picture.drawing(hall, 0));
    }

    private static void copyOfNone() {
        Due.by(9, "@throws IndexOutOfBoundsException if there is no such drawing");
        Refused.withoutDrawing("copy", (hall, drawing) -> hall.copy(drawing, false));
        Refused.withoutDrawing("mirror", (hall, drawing) -> hall.copy(drawing, true));
    }

    private static void noRoomToCopy() {
        Due.by(9, "@throws IllegalStateException if there are 6");
        for (int drawing = 0; drawing < 6; drawing++) {
            int from = drawing;
            Refused.state("a seventh like " + drawing, Halls::full, hall -> hall.copy(from, from % 2 == 0));
        }
    }

    private static void noDrawingAheadOfNoRoom() {
        Due.by("Terms", "the one that its comment lists first is thrown");
        for (int drawing : new int[] {-1, 6, LEAST, GREATEST}) {
            Refused.index("copy(" + drawing + ") when there are 6", Halls::full, hall -> hall.copy(drawing, false));
        }
    }

    private static void copyWithoutNumbers() {
        Due.by(9, "Makes a drawing with the signs of another one, or of its mirror, without numbers.");
        for (int points = 3; points <= 7; points++) {
            TurnsHall hall = Halls.convex(points);
            hall.triangulate(0);
            String before = Picture.drawing(hall, 0).replace("of 1", "of 3");
            Due.same("copy", 1, () -> hall.copy(0, false));
            Due.same("mirror", 2, () -> hall.copy(0, true));
            String all = Halls.signs(hall, 0);
            Due.tell("the copy", "of 3, number 1: " + all + " numbers edges ", Picture.drawing(hall, 1));
            Due.tell("the mirror", "of 3, number 2: " + all.replace('+', '-') + " numbers edges ",
                    Picture.drawing(hall, 2));
            Due.tell("the first", before, Picture.drawing(hall, 0));
            Due.yes("flip of the copy", hall.flip(1, 0, 1, 2));
            Due.tell("the first, when the copy was flipped", before, Picture.drawing(hall, 0));
        }
    }

    private static void flipOfNone() {
        Due.by(10, "@throws IndexOutOfBoundsException if there is no such drawing or point");
        Refused.withoutDrawing("flip", (hall, drawing) -> hall.flip(drawing, 0, 1, 2));
        Refused.withoutPoint("flip i", (hall, point) -> hall.flip(0, point, 1, 2));
        Refused.withoutPoint("flip j", (hall, point) -> hall.flip(0, 0, point, 2));
        Refused.withoutPoint("flip k", (hall, point) -> hall.flip(0, 0, 1, point));
        Refused.index("flip of point 7 of 7", Halls::busy, hall -> hall.flip(2, 5, 6, 7));
        Refused.index("flip of point 3 of 3", Halls::full, hall -> hall.flip(0, 1, 2, 3));
    }

    private static void flipOfPointsAlike() {
        Due.by(10, "@throws IllegalArgumentException if two of the points are the same");
        int[][] alike = {{0, 0, 1}, {0, 1, 0}, {1, 0, 0}, {3, 3, 3}, {3, 3, 0}, {3, 0, 3}, {0, 3, 3}};
        for (int[] t : alike) {
            Refused.argument("flip of points alike", Halls::busy, hall -> hall.flip(0, t[0], t[1], t[2]));
        }
        Refused.argument("flip of 6, 6, 5", Halls::busy, hall -> hall.flip(2, 6, 6, 5));
    }

    private static void flipOfNoneAheadOfAlike() {
        Due.by("Terms", "the one that its comment lists first is thrown");
        Refused.withoutDrawing("flip of 0, 0, 0", (hall, drawing) -> hall.flip(drawing, 0, 0, 0));
        Refused.withoutPoint("flip of 1, 1 and", (hall, point) -> hall.flip(0, 1, 1, point));
        Refused.withoutPoint("flip of 1 twice beside", (hall, point) -> hall.flip(0, 1, point, 1));
        Refused.withoutPoint("flip of 1, 1 behind", (hall, point) -> hall.flip(0, point, 1, 1));
        Refused.withoutPoint("flip of thrice", (hall, point) -> hall.flip(0, point, point, point));
    }

    private static void flipOfThree() {
        Due.by(10, "@return whether it was done");
        TurnsHall hall = Halls.convex(3);
        for (int round = 0; round < 6; round++) {
            Due.yes("flip of three", hall.flip(0, round % 3, (round + 1) % 3, (round + 2) % 3));
            int due = round % 2 == 0 ? -1 : 1;
            Due.same("the sign then", due, () -> hall.sign(0, 0, 1, 2));
        }
        TurnsHall seven = Halls.convex(7);
        Due.yes("flip of the last, the first and the second", seven.flip(0, 6, 0, 1));
        Due.yes("flip back, exchanged", seven.flip(0, 1, 0, 6));
        Due.yes("flip of the last three", seven.flip(0, 6, 5, 4));
        Due.no("flip of three that are not side by side", seven.flip(0, 0, 2, 4));
        Due.tell("all signs but one as at first", "+".repeat(34) + "-", Halls.signs(seven, 0));
    }

    private static void whatAFlipTakes() {
        Due.by("Terms", "A flip that is done takes numbers away");
        TurnsHall hall = Halls.busy();
        Due.yes("flip", hall.flip(0, 3, 1, 0));
        Due.no("hasNumbers", hall.hasNumbers(0));
        Due.noState("number", () -> hall.number(0, 0, false));
        Due.yes("flip back", hall.flip(0, 3, 1, 0));
        Due.no("hasNumbers after it went back", hall.hasNumbers(0));
        Due.yes("the numbers beside", hall.hasNumbers(1));
        Due.by("Terms", "A flip of three points that is done, and other names, take the triangulation away.");
        TurnsHall flipped = Halls.busy();
        Due.yes("flip", flipped.flip(1, 1, 0, 4));
        Due.tell("edges", "", Halls.edges(flipped, 1));
        Due.noState("flipEdge", () -> flipped.flipEdge(1, 1, 3));
        Due.yes("flip back", flipped.flip(1, 1, 0, 4));
        Due.tell("edges after it went back", "", Halls.edges(flipped, 1));
        Due.tell("edges beside", "01 02 03 12 13 23", Halls.edges(flipped, 0));
    }

    private static void whatAFlipThatFailsLeaves() {
        Due.by("Terms", "if the signs hold then; otherwise it cannot be done");
        for (int part = 0; part < Picture.PARTS; part++) {
            TurnsHall hall = Halls.busy();
            Due.no("flip of the corners", hall.flip(0, 0, 1, 2));
            Due.no("flip of the corners in another order", hall.flip(0, 1, 0, 2));
            Due.no("flip of three that are not side by side", hall.flip(1, 0, 1, 3));
            Due.no("flip of three that are not side by side, in another order", hall.flip(1, 4, 2, 0));
            Due.no("flip of three that are not side by side of seven", hall.flip(2, 6, 4, 1));
            Due.tell("what is there then", Picture.of(Halls.busy(), part), Picture.of(hall, part));
        }
    }

    private static void renameOfNone() {
        Due.by(11, "@throws IndexOutOfBoundsException if there is no such drawing or point");
        Refused.withoutDrawing("rename", (hall, drawing) -> hall.rename(drawing, 0, 1));
        Refused.withoutPoint("rename i", (hall, point) -> hall.rename(0, point, 1));
        Refused.withoutPoint("rename j", (hall, point) -> hall.rename(0, 0, point));
        Refused.index("rename of point 7 of 7", Halls::busy, hall -> hall.rename(2, 6, 7));
        Refused.index("rename of point 3 of 3", Halls::full, hall -> hall.rename(0, 3, 2));
    }

    private static void renameOfPointsAlike() {
        Due.by(11, "@throws IllegalArgumentException if both are the same");
        for (int point = 0; point < 4; point++) {
            int both = point;
            Refused.argument("rename of " + point + " with itself", Halls::busy, hall -> hall.rename(0, both, both));
        }
    }

    private static void renameOfNoneAheadOfAlike() {
        Due.by("Terms", "the one that its comment lists first is thrown");
        Refused.withoutDrawing("rename of 0 with itself", (hall, drawing) -> hall.rename(drawing, 0, 0));
        Refused.withoutPoint("rename with itself", (hall, point) -> hall.rename(0, point, point));
    }

    private static void numbersGoAlong() {
        Due.by("Terms", "other names take them along");
        TurnsHall hall = Halls.convex(7);
        hall.rename(0, 6, 0);
        Due.same("x of the first", 60, () -> hall.number(0, 0, false));
        Due.same("y of the first", 360, () -> hall.number(0, 0, true));
        Due.same("x of the last", 0, () -> hall.number(0, 6, false));
        Due.same("y of the last", 0, () -> hall.number(0, 6, true));
        Due.same("x of another one", 30, () -> hall.number(0, 3, false));
        for (int i = 0; i < 7; i++) {
            for (int j = 0; j < 7; j++) {
                if (i != j) {
                    TurnsHall seven = Halls.convex(7);
                    seven.rename(0, i, j);
                    turnsByNumbers(seven);
                }
            }
        }
    }

    /** Looks whether the signs are those of the numbers. */
    private static void turnsByNumbers(TurnsHall hall) {
        SlowPlan plan = new SlowPlan(hall.points(0));
        StringBuilder due = new StringBuilder();
        for (int[] t : SlowPlan.choices(plan.n, 3)) {
            int area = (x(hall, t[1]) - x(hall, t[0])) * (y(hall, t[2]) - y(hall, t[0]))
                    - (x(hall, t[2]) - x(hall, t[0])) * (y(hall, t[1]) - y(hall, t[0]));
            due.append(area > 0 ? '+' : '-');
        }
        Due.tell("signs under other names", due.toString(), Halls.signs(hall, 0));
    }

    private static int x(TurnsHall hall, int point) {
        return hall.number(0, point, false);
    }

    private static int y(TurnsHall hall, int point) {
        return hall.number(0, point, true);
    }

    private static void namesTakeTriangulations() {
        Due.by("Terms", "and other names, take the triangulation away");
        TurnsHall hall = Halls.busy();
        hall.rename(0, 0, 3);
        Due.tell("edges", "", Halls.edges(hall, 0));
        Due.noState("flipEdge", () -> hall.flipEdge(0, 0, 1));
        hall.rename(0, 0, 3);
        Due.tell("edges under the old names", "", Halls.edges(hall, 0));
        Due.tell("edges beside", "01 03 04 12 13 23 34", Halls.edges(hall, 1));
    }

    private static void realizeOfNone() {
        Due.by(12, "@throws IndexOutOfBoundsException if there is no such drawing");
        Refused.withoutDrawing("realize", (hall, drawing) -> hall.realize(drawing));
        Refused.index("realize of 3 by no points", () -> withPoints(0), hall -> hall.realize(3));
    }

    private static void refuseNumbers(String why, TurnsHall hall, int drawing, int left) {
        String before = Picture.drawing(hall, drawing);
        Due.no("realize by " + why, hall.realize(drawing));
        Due.tell("the drawing then", before, Picture.drawing(hall, drawing));
        Due.same("the shelf stays", left, hall::clear);
    }

    private static void realizeByOtherCounts() {
        Due.by("Terms", "Numbers can be given to a drawing by the shelf, if that has as many points");
        for (int points = 0; points <= 7; points++) {
            if (points != 4) {
                refuseNumbers(points + " points for 4", withPoints(points), 0, points);
            }
            if (points != 7) {
                refuseNumbers(points + " points for 7", withPoints(points), 2, points);
            }
            if (points != 3) {
                TurnsHall hall = Halls.full();
                hall.clear();
                Halls.shelveHull(hall, points);
                refuseNumbers(points + " points for 3", hall, 0, points);
            }
        }
    }

    private static void realizeByOtherSigns() {
        Due.by("Terms", "with just its signs");
        for (int[] t : SlowPlan.choices(7, 3)) {
            TurnsHall hall = withPoints(7);
            if (hall.flip(2, t[0], t[1], t[2])) {
                refuseNumbers("all signs but one", hall, 2, 7);
            }
        }
        TurnsHall three = Halls.full();
        three.flip(0, 0, 1, 2);
        refuseNumbers("the other turn", three, 0, 3);
        TurnsHall numbered = Halls.convex(4);
        Halls.shelve(numbered, 0, 0, 10, 10, 30, 90, 20, 40);
        refuseNumbers("the last two exchanged", numbered, 0, 4);
    }

    private static void realizeByRightSigns() {
        Due.by(12, "Gives a drawing the numbers of the shelf, which is empty then, if they are right.");
        for (int points = 3; points <= 7; points++) {
            TurnsHall hall = new TurnsHall();
            Halls.spellAll(hall, points);
            hall.wire(points);
            hall.triangulate(0);
            String edges = Halls.edges(hall, 0);
            Halls.shelveHull(hall, points);
            hall.letter(2);
            Due.yes("realize", hall.realize(0));
            Due.same("clear", 0, hall::clear);
            Due.same("the word stays", 1, hall::wipe);
            Due.yes("hasNumbers", hall.hasNumbers(0));
            int last = points - 1;
            Due.same("y of the last", 10 * last * last, () -> hall.number(0, last, true));
            Due.tell("the triangulation stays", edges, Halls.edges(hall, 0));
            Due.no("realize again, by no points", hall.realize(0));
            Due.yes("hasNumbers still", hall.hasNumbers(0));
        }
    }
}
