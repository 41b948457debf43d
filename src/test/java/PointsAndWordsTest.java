/** Promises 1 to 6: a new object, the shelf and the word. */
public final class PointsAndWordsTest {
    public static void main(String[] args) {
        newObject();
        placing();
        placesInTheWay();
        linesInTheWay();
        fullShelf();
        clearing();
        lettering();
        wiping();
        wrongLines();
        letterAboveTheLines();
        crossingAgain();
        linesLeftOver();
        rightWords();
        Due.end();
    }

    private static void newObject() {
        TurnsHall hall = new TurnsHall();
        Due.same("drawings of a new object", 0, hall::drawings);
        Due.same("clear of a new object", 0, hall::clear);
        Due.same("wipe of a new object", 0, hall::wipe);
        Due.noIndex("points(0) of a new object", () -> hall.points(0));
        Due.same("NONE", -1, () -> TurnsHall.NONE);
        hall.place(1, 1);
        hall.letter(1);
        TurnsHall other = new TurnsHall();
        Due.same("clear of another object", 0, other::clear);
        Due.same("wipe of another object", 0, other::wipe);
    }

    private static void placing() {
        TurnsHall hall = new TurnsHall();
        Due.same("place(-1000, 1000)", 1, () -> hall.place(-1000, 1000));
        Due.same("place(1000, -1000)", 2, () -> hall.place(1000, -1000));
        Due.noArgument("place(-1001, 0)", () -> hall.place(-1001, 0));
        Due.noArgument("place(1001, 0)", () -> hall.place(1001, 0));
        Due.noArgument("place(0, -1001)", () -> hall.place(0, -1001));
        Due.noArgument("place(0, 1001)", () -> hall.place(0, 1001));
        Due.noArgument("place of the least number", () -> hall.place(Integer.MIN_VALUE, 5));
        Due.noArgument("place of the greatest number", () -> hall.place(5, Integer.MAX_VALUE));
        Due.same("place(1000, 1000)", 3, () -> hall.place(1000, 1000));
        Due.same("place(-1000, -1000)", 4, () -> hall.place(-1000, -1000));
        Due.noState("place(0, 0) on both lines", () -> hall.place(0, 0));
        Due.same("place(1, 0)", 5, () -> hall.place(1, 0));
    }

    private static void placesInTheWay() {
        TurnsHall hall = new TurnsHall();
        Halls.shelve(hall, 5, 6);
        Due.noState("the place of the only point", () -> hall.place(5, 6));
        Due.same("the same x", 2, () -> hall.place(5, 7));
        Due.same("the same y", 3, () -> hall.place(6, 7));
        Due.noState("the place of the first point", () -> hall.place(5, 6));
        Due.noState("the place of the last point", () -> hall.place(6, 7));
        Due.same("points after all", 3, hall::clear);
    }

    private static void linesInTheWay() {
        TurnsHall hall = new TurnsHall();
        Halls.shelve(hall, 0, 0, 10, 0, 3, 7);
        Due.noState("between two on a line", () -> hall.place(4, 0));
        Due.noState("behind one on a line", () -> hall.place(-1000, 0));
        Due.noState("behind the other on a line", () -> hall.place(999, 0));
        Due.noState("on the line of the first and the last", () -> hall.place(300, 700));
        Due.noState("on the line of the last two", () -> hall.place(-4, 14));
        Due.same("next to a line", 4, () -> hall.place(301, 700));
        TurnsHall far = new TurnsHall();
        Halls.shelve(far, -1000, -1000, 999, 1000);
        Due.same("hardly beside a long line", 3, () -> far.place(1000, 1000));
        Halls.shelve(far, 7, -1000, 7, -3);
        Due.noState("on an upright line", () -> far.place(7, 900));
    }

    private static void fullShelf() {
        TurnsHall hall = new TurnsHall();
        for (int x = 0; x < 7; x++) {
            int at = x;
            Due.same("place " + x, x + 1, () -> hall.place(at, at * at));
        }
        Due.noState("place of an eighth", () -> hall.place(20, 1));
        Due.noArgument("place of an eighth far out", () -> hall.place(1001, 1));
        Due.same("clear of seven", 7, hall::clear);
    }

    private static void clearing() {
        TurnsHall hall = new TurnsHall();
        Halls.shelve(hall, 1, 1, 2, 2);
        hall.letter(3);
        Due.same("clear of two", 2, hall::clear);
        Due.same("clear again", 0, hall::clear);
        Due.same("the word stays", 1, hall::wipe);
        Due.same("place where one was", 1, () -> hall.place(1, 1));
    }

    private static void lettering() {
        TurnsHall hall = new TurnsHall();
        Due.noArgument("letter(-1)", () -> hall.letter(-1));
        Due.noArgument("letter(6)", () -> hall.letter(6));
        Due.same("letter(0)", 1, () -> hall.letter(0));
        Due.same("letter(5)", 2, () -> hall.letter(5));
        Due.same("the same letter", 3, () -> hall.letter(5));
        for (int count = 4; count <= 21; count++) {
            Due.same("letter " + count, count, () -> hall.letter(2));
        }
        Due.noState("letter of a full word", () -> hall.letter(2));
        Due.noArgument("letter out of range of a full word", () -> hall.letter(6));
        Due.same("wipe of a full word", 21, hall::wipe);
    }

    private static void wiping() {
        TurnsHall hall = new TurnsHall();
        Halls.spell(hall, 0, 1);
        hall.place(4, 4);
        Due.same("wipe of two", 2, hall::wipe);
        Due.same("wipe again", 0, hall::wipe);
        Due.same("the shelf stays", 1, hall::clear);
        Due.same("letter after wipe", 1, () -> hall.letter(4));
        Due.same("the letter is the new one", 0, () -> hall.fault(3));
    }

    private static void wrongLines() {
        TurnsHall hall = new TurnsHall();
        Due.noArgument("fault(2)", () -> hall.fault(2));
        Due.noArgument("fault(8)", () -> hall.fault(8));
        Due.noArgument("fault(-1)", () -> hall.fault(-1));
        Due.same("fault(3) of no letters", 0, () -> hall.fault(3));
        Due.same("fault(7) of no letters", 0, () -> hall.fault(7));
    }

    private static void letterAboveTheLines() {
        TurnsHall hall = new TurnsHall();
        Halls.spell(hall, 1, 0, 2, 1);
        Due.same("letter 2 for 3 lines", 2, () -> hall.fault(3));
        Due.same("letter 2 for 4 lines", 4, () -> hall.fault(4));
        Due.same("fault changes nothing", 2, () -> hall.fault(3));
    }

    private static void crossingAgain() {
        TurnsHall hall = new TurnsHall();
        Halls.spell(hall, 0, 0);
        Due.same("a letter twice", 1, () -> hall.fault(3));
        hall.wipe();
        Halls.spell(hall, 0, 1, 0, 1);
        Due.same("a letter too many", 3, () -> hall.fault(3));
        Due.same("the same for more lines", 3, () -> hall.fault(4));
        hall.wipe();
        Halls.spell(hall, 1, 0, 2, 1, 2, 1, 5);
        Due.same("the first of two faults", 5, () -> hall.fault(4));
    }

    private static void linesLeftOver() {
        TurnsHall hall = new TurnsHall();
        Halls.spell(hall, 0, 1);
        Due.same("lines that do not cross", 2, () -> hall.fault(3));
        hall.letter(0);
        Due.same("all three cross", TurnsHall.NONE, () -> hall.fault(3));
        Due.same("a fourth does not", 3, () -> hall.fault(4));
    }

    private static void rightWords() {
        TurnsHall hall = new TurnsHall();
        for (int lines = 3; lines <= 7; lines++) {
            hall.wipe();
            for (int round = lines - 1; round > 0; round--) {
                for (int letter = 0; letter < round; letter++) {
                    hall.letter(letter);
                }
            }
            int many = lines;
            Due.same("a right word for " + lines, TurnsHall.NONE, () -> hall.fault(many));
        }
        Due.same("fault leaves the word", 21, hall::wipe);
    }
}
