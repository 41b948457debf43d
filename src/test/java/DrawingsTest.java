/** Promises 7 to 12: drawings are made, flipped, renamed and given numbers. */
public final class DrawingsTest {
    public static void main(String[] args) {
        drawing();
        drawingOfSeven();
        tooFewPoints();
        tooManyDrawings();
        wiring();
        wiringSeven();
        wrongWords();
        copying();
        flipping();
        wrongFlips();
        whatAFlipTakes();
        renaming();
        wrongNames();
        realizing();
        Due.end();
    }

    private static void drawing() {
        TurnsHall hall = new TurnsHall();
        Halls.spell(hall, 4);
        Halls.shelve(hall, 0, 0, 10, 0, 0, 10);
        Due.same("draw", 0, hall::draw);
        Due.same("the shelf after draw", 0, hall::clear);
        Due.same("the word after draw", 1, hall::wipe);
        Due.same("points", 3, () -> hall.points(0));
        Due.same("sign", 1, () -> hall.sign(0, 0, 1, 2));
        Due.yes("numbers after draw", hall.hasNumbers(0));
        Due.same("x", 10, () -> hall.number(0, 1, false));
        Due.same("y", 10, () -> hall.number(0, 2, true));
        Due.same("the first stays", 1, () -> hall.sign(0, 0, 1, 2));
    }

    private static void drawingOfSeven() {
        int[] xy = {0, 0, 0, 10, 10, 0, -1000, -999, 1000, 998, 3, 2, -5, 1000};
        TurnsHall hall = Halls.drawn(0, 0, 10, 0, 0, 10);
        Halls.shelve(hall, xy);
        Due.same("draw of seven", 1, hall::draw);
        Due.same("points of the second", 7, () -> hall.points(1));
        Due.same("sign of the other turn", -1, () -> hall.sign(1, 0, 1, 2));
        for (int i = 0; i < 7; i++) {
            for (int j = i + 1; j < 7; j++) {
                for (int k = j + 1; k < 7; k++) {
                    int due = Integer.signum((xy[2 * j] - xy[2 * i]) * (xy[2 * k + 1] - xy[2 * i + 1])
                            - (xy[2 * k] - xy[2 * i]) * (xy[2 * j + 1] - xy[2 * i + 1]));
                    int[] t = {i, j, k};
                    Due.same("sign " + i + " " + j + " " + k, due, () -> hall.sign(1, t[0], t[1], t[2]));
                }
            }
        }
        Due.same("the first stays", 1, () -> hall.sign(0, 0, 1, 2));
    }

    private static void tooFewPoints() {
        TurnsHall hall = new TurnsHall();
        Due.noState("draw of nothing", hall::draw);
        Halls.shelve(hall, 0, 0, 10, 0);
        Due.noState("draw of two", hall::draw);
        Due.same("the shelf stays", 2, hall::clear);
        Due.same("no drawing was made", 0, hall::drawings);
    }

    private static void tooManyDrawings() {
        TurnsHall hall = new TurnsHall();
        for (int at = 0; at < 6; at++) {
            int number = at;
            Due.same("draw " + at, number, () -> Halls.draw(hall, 0, 0, 1, 0, 0, 1));
        }
        Halls.shelve(hall, 0, 0, 1, 0, 0, 1);
        Halls.spell(hall, 0, 1, 0);
        Due.noState("a seventh of the shelf", hall::draw);
        Due.noState("a seventh of the word", () -> hall.wire(3));
        Due.noState("a seventh like another one", () -> hall.copy(0, false));
        Due.noIndex("a seventh like none", () -> hall.copy(6, false));
        Due.noArgument("a seventh of two lines", () -> hall.wire(2));
        Due.same("six drawings", 6, hall::drawings);
        Due.same("the shelf stays", 3, hall::clear);
        Due.same("the word stays", 3, hall::wipe);
    }

    private static void wiring() {
        TurnsHall hall = new TurnsHall();
        hall.place(3, 3);
        Halls.spell(hall, 0, 1, 0);
        Due.same("wire(3)", 0, () -> hall.wire(3));
        Due.same("the word after wire", 0, hall::wipe);
        Due.same("the shelf after wire", 1, hall::clear);
        Due.same("0 and 1 cross ahead of 1 and 2", 1, () -> hall.sign(0, 0, 1, 2));
        Due.no("numbers after wire", hall.hasNumbers(0));
        Due.same("points", 3, () -> hall.points(0));
        Halls.spell(hall, 1, 0, 1);
        Due.same("wire(3) again", 1, () -> hall.wire(3));
        Due.same("1 and 2 cross ahead of 0 and 1", -1, () -> hall.sign(1, 0, 1, 2));
        Halls.spell(hall, 0, 2, 1, 0, 2, 1);
        Due.same("wire(4)", 2, () -> hall.wire(4));
        Due.tell("signs of 4 lines", "++--", Halls.signs(hall, 2));
        Halls.spell(hall, 2, 1, 2, 0, 1, 2);
        Due.same("wire(4) again", 3, () -> hall.wire(4));
        Due.tell("signs of 4 other lines", "----", Halls.signs(hall, 3));
    }

    private static void wiringSeven() {
        TurnsHall hall = new TurnsHall();
        for (int round = 6; round > 0; round--) {
            for (int letter = 0; letter < round; letter++) {
                hall.letter(letter);
            }
        }
        Due.same("wire(7)", 0, () -> hall.wire(7));
        Due.tell("signs of 7 lines", "+".repeat(35), Halls.signs(hall, 0));
        for (int round = 6; round > 0; round--) {
            for (int letter = 0; letter < round; letter++) {
                hall.letter(5 - letter);
            }
        }
        Due.same("wire(7) upside down", 1, () -> hall.wire(7));
        Due.tell("signs of 7 lines upside down", "-".repeat(35), Halls.signs(hall, 1));
    }

    private static void wrongWords() {
        TurnsHall hall = new TurnsHall();
        Due.noArgument("wire(2)", () -> hall.wire(2));
        Due.noArgument("wire(8)", () -> hall.wire(8));
        Due.noState("wire of no letters", () -> hall.wire(3));
        Halls.spell(hall, 0, 1, 0);
        Due.noState("wire of too few letters", () -> hall.wire(4));
        hall.letter(1);
        Due.noState("wire of a letter too many", () -> hall.wire(3));
        Due.same("the word stays", 4, hall::wipe);
        Halls.spell(hall, 1, 2, 0);
        Due.noState("wire of a letter above", () -> hall.wire(3));
        Due.same("no drawing was made", 0, hall::drawings);
    }

    private static void copying() {
        TurnsHall hall = Halls.drawn(0, 0, 90, 0, 0, 90, 20, 21, 30, 5);
        hall.triangulate(0);
        String signs = Halls.signs(hall, 0);
        String mirror = signs.replace('+', '0').replace('-', '+').replace('0', '-');
        Due.same("copy", 1, () -> hall.copy(0, false));
        Due.tell("signs of the copy", signs, Halls.signs(hall, 1));
        Due.no("numbers of the copy", hall.hasNumbers(1));
        Due.tell("triangulation of the copy", "", Halls.edges(hall, 1));
        Due.same("mirror", 2, () -> hall.copy(0, true));
        Due.tell("signs of the mirror", mirror, Halls.signs(hall, 2));
        Due.same("points of the mirror", 5, () -> hall.points(2));
        Due.no("numbers of the mirror", hall.hasNumbers(2));
        Due.yes("numbers stay", hall.hasNumbers(0));
        Due.same("mirror of the mirror", 3, () -> hall.copy(2, true));
        Due.tell("signs of the mirror's mirror", signs, Halls.signs(hall, 3));
        hall.rename(1, 0, 1);
        Due.tell("the first is not the copy", signs, Halls.signs(hall, 0));
        Due.noIndex("copy(4, ..)", () -> hall.copy(4, false));
        Due.noIndex("copy(-1, ..)", () -> hall.copy(-1, true));
        Due.same("drawings", 4, hall::drawings);
    }

    private static void flipping() {
        TurnsHall hall = Halls.middle();
        Due.tell("signs", "++-+", Halls.signs(hall, 0));
        Due.no("flip of the corners", hall.flip(0, 0, 1, 2));
        Due.tell("signs as before", "++-+", Halls.signs(hall, 0));
        Due.yes("numbers as before", hall.hasNumbers(0));
        Due.yes("flip at a side", hall.flip(0, 0, 1, 3));
        Due.tell("signs then", "+--+", Halls.signs(hall, 0));
        Due.yes("flip back, in another order", hall.flip(0, 3, 0, 1));
        Due.tell("signs after it went back", "++-+", Halls.signs(hall, 0));
        TurnsHall three = Halls.drawn(0, 0, 1, 0, 0, 1);
        Due.yes("flip of three alone", three.flip(0, 2, 1, 0));
        Due.same("sign of three alone", -1, () -> three.sign(0, 0, 1, 2));
        TurnsHall five = Halls.convex(5);
        Due.no("flip of three of five on a hull", five.flip(0, 0, 1, 3));
        Due.yes("flip of three on a hull, side by side", five.flip(0, 0, 1, 2));
        Due.tell("signs of the five", "-+++++++++", Halls.signs(five, 0));
    }

    private static void wrongFlips() {
        TurnsHall hall = Halls.middle();
        Due.noIndex("flip of no drawing", () -> hall.flip(1, 0, 1, 2) ? 1 : 0);
        Due.noIndex("flip of drawing -1", () -> hall.flip(-1, 0, 1, 2) ? 1 : 0);
        Due.noIndex("flip of point 4", () -> hall.flip(0, 4, 1, 2) ? 1 : 0);
        Due.noIndex("flip of point -1", () -> hall.flip(0, 0, -1, 2) ? 1 : 0);
        Due.noIndex("flip of a third point 4", () -> hall.flip(0, 0, 1, 4) ? 1 : 0);
        Due.noIndex("flip of the same point 4", () -> hall.flip(0, 4, 4, 4) ? 1 : 0);
        Due.noArgument("flip of 0, 0, 1", () -> hall.flip(0, 0, 0, 1) ? 1 : 0);
        Due.noArgument("flip of 0, 1, 0", () -> hall.flip(0, 0, 1, 0) ? 1 : 0);
        Due.noArgument("flip of 1, 0, 0", () -> hall.flip(0, 1, 0, 0) ? 1 : 0);
        Due.tell("signs as before", "++-+", Halls.signs(hall, 0));
    }

    private static void whatAFlipTakes() {
        TurnsHall hall = Halls.middle();
        hall.triangulate(0);
        hall.flip(0, 0, 1, 2);
        Due.yes("numbers after a flip that was not done", hall.hasNumbers(0));
        Due.yes("triangulation after a flip that was not done", hall.edge(0, 0, 1));
        hall.flip(0, 0, 1, 3);
        Due.no("numbers after a flip", hall.hasNumbers(0));
        Due.tell("triangulation after a flip", "", Halls.edges(hall, 0));
        hall.flip(0, 0, 1, 3);
        Due.no("numbers after it went back", hall.hasNumbers(0));
        Due.tell("triangulation after it went back", "", Halls.edges(hall, 0));
    }

    private static void renaming() {
        TurnsHall hall = Halls.middle();
        hall.triangulate(0);
        hall.rename(0, 3, 1);
        Due.tell("signs under other names", "+---", Halls.signs(hall, 0));
        Due.yes("numbers under other names", hall.hasNumbers(0));
        Due.same("x of 1", 20, () -> hall.number(0, 1, false));
        Due.same("y of 1", 21, () -> hall.number(0, 1, true));
        Due.same("x of 3", 90, () -> hall.number(0, 3, false));
        Due.same("y of 3", 0, () -> hall.number(0, 3, true));
        Due.same("y of 2", 90, () -> hall.number(0, 2, true));
        Due.tell("triangulation under other names", "", Halls.edges(hall, 0));
        hall.rename(0, 1, 3);
        Due.tell("signs under the old names", "++-+", Halls.signs(hall, 0));
        TurnsHall wired = new TurnsHall();
        Halls.spell(wired, 0, 1, 0);
        wired.wire(3);
        wired.rename(0, 0, 2);
        Due.same("sign of three under other names", -1, () -> wired.sign(0, 0, 1, 2));
        Due.no("no numbers come of names", wired.hasNumbers(0));
    }

    private static void wrongNames() {
        TurnsHall hall = Halls.middle();
        Due.noIndex("rename of no drawing", Due.of(() -> hall.rename(1, 0, 1)));
        Due.noIndex("rename of drawing -1", Due.of(() -> hall.rename(-1, 0, 1)));
        Due.noIndex("rename of point 4", Due.of(() -> hall.rename(0, 4, 1)));
        Due.noIndex("rename with point -1", Due.of(() -> hall.rename(0, 0, -1)));
        Due.noIndex("rename of 4 with itself", Due.of(() -> hall.rename(0, 4, 4)));
        Due.noArgument("rename of 1 with itself", Due.of(() -> hall.rename(0, 1, 1)));
        Due.tell("signs as before", "++-+", Halls.signs(hall, 0));
    }

    private static void realizing() {
        TurnsHall hall = new TurnsHall();
        Halls.spell(hall, 0, 1, 0);
        hall.wire(3);
        hall.triangulate(0);
        Due.no("realize by nothing", hall.realize(0));
        Halls.shelve(hall, 5, 5, 6, 5);
        Due.no("realize by two points", hall.realize(0));
        Halls.shelve(hall, 5, 4);
        Due.no("realize by the other turn", hall.realize(0));
        Due.no("numbers that are not right", hall.hasNumbers(0));
        Due.same("the shelf stays", 3, hall::clear);
        Halls.shelve(hall, 5, 5, 6, 5, 7, 6, 8, 8);
        Due.no("realize by four points", hall.realize(0));
        hall.clear();
        Halls.shelve(hall, 5, 5, 6, 5, 7, 6);
        Due.yes("realize", hall.realize(0));
        Due.same("the shelf after realize", 0, hall::clear);
        Due.same("x of 2", 7, () -> hall.number(0, 2, false));
        Due.tell("the triangulation stays", "01 02 12", Halls.edges(hall, 0));
        Halls.shelve(hall, 1, 1, 2, 1, 1, 0);
        Due.no("realize by wrong numbers", hall.realize(0));
        Due.same("the numbers stay", 7, () -> hall.number(0, 2, false));
        hall.clear();
        Halls.shelve(hall, 1, 1, 2, 1, 1, 9);
        Due.yes("realize anew", hall.realize(0));
        Due.same("y of 2", 9, () -> hall.number(0, 2, true));
        Due.noIndex("realize of no drawing", () -> hall.realize(1) ? 1 : 0);
        Due.noIndex("realize of drawing -1", () -> hall.realize(-1) ? 1 : 0);
    }
}
