/** Promises 1 to 6 and what the terms say of points and words: each sentence with a boundary has a test of its own. */
public final class BoundsOfPointsAndWordsTest {
    private static final int LEAST = Integer.MIN_VALUE;
    private static final int GREATEST = Integer.MAX_VALUE;

    public static void main(String[] args) {
        numberOfNone();
        nothingAtFirst();
        rangeOfX();
        rangeOfY();
        sevenPoints();
        placeOfAnotherOne();
        lineWithTwo();
        rangeAheadOfTheShelf();
        pointsThatClearHad();
        rangeOfLetters();
        twentyOneLetters();
        letterAheadOfTheWord();
        lettersThatWipeHad();
        rangeOfLines();
        letterAboveTheLines();
        linesThatCrossedAlready();
        firstOfSeveralFaults();
        linesThatDoNotCross();
        rightWords();
        placesOfLines();
        Due.end();
    }

    private static void numberOfNone() {
        Due.by("Terms", "The constants: `NONE = -1`: None.");
        Due.same("NONE", -1, () -> TurnsHall.NONE);
        Due.same("fault of a right word", -1, () -> Halls.busy().fault(3));
        Due.same("hull of a place that there is not", -1, () -> Halls.busy().hull(0, 3));
    }

    private static void nothingAtFirst() {
        Due.by(1, "No drawings; the shelf and the word are empty.");
        TurnsHall used = Halls.full();
        Due.same("drawings beside", 6, used::drawings);
        Due.same("drawings", 0, () -> new TurnsHall().drawings());
        Due.same("clear", 0, () -> new TurnsHall().clear());
        Due.same("wipe", 0, () -> new TurnsHall().wipe());
        for (int lines = 3; lines <= 7; lines++) {
            int many = lines;
            Due.same("fault(" + lines + ")", 0, () -> new TurnsHall().fault(many));
            Refused.state("wire(" + lines + ")", TurnsHall::new, hall -> hall.wire(many));
        }
        Refused.state("draw()", TurnsHall::new, TurnsHall::draw);
        Refused.index("points(0)", TurnsHall::new, hall -> hall.points(0));
    }

    private static void rangeOfX() {
        Due.by(2, "@param x -1000 to 1000");
        Due.same("place(-1000, 0)", 1, () -> new TurnsHall().place(-1000, 0));
        Due.same("place(1000, 0)", 1, () -> new TurnsHall().place(1000, 0));
        Due.same("x of the least", -1000, () -> Halls.drawn(-1000, 1, 5, 5, 9, 2).number(0, 0, false));
        Due.same("x of the greatest", 1000, () -> Halls.drawn(5, 5, 9, 2, 1000, 3).number(0, 2, false));
        Due.by(2, "@throws IllegalArgumentException if x or y is out of its range");
        for (int x : new int[] {-1001, 1001, LEAST, GREATEST}) {
            Refused.argument("place(" + x + ", 7)", TurnsHall::new, hall -> hall.place(x, 7));
            Refused.argument("place(" + x + ", 7)", Halls::busy, hall -> hall.place(x, 7));
        }
    }

    private static void rangeOfY() {
        Due.by(2, "@param y -1000 to 1000");
        Due.same("place(0, -1000)", 1, () -> new TurnsHall().place(0, -1000));
        Due.same("place(0, 1000)", 1, () -> new TurnsHall().place(0, 1000));
        Due.same("y of the least", -1000, () -> Halls.drawn(1, -1000, 5, 5, 9, 2).number(0, 0, true));
        Due.same("y of the greatest", 1000, () -> Halls.drawn(5, 5, 9, 2, 3, 1000).number(0, 2, true));
        Due.by(2, "if x or y is out of its range");
        for (int y : new int[] {-1001, 1001, LEAST, GREATEST}) {
            Refused.argument("place(7, " + y + ")", TurnsHall::new, hall -> hall.place(7, y));
            Refused.argument("place(7, " + y + ")", Halls::busy, hall -> hall.place(7, y));
            Refused.argument("place(" + y + ", " + y + ")", Halls::busy, hall -> hall.place(y, y));
        }
    }

    /** Seven points on a curve wait; the place 900, 1 is on no line of theirs. */
    private static TurnsHall sevenWait() {
        TurnsHall hall = new TurnsHall();
        Halls.shelveHull(hall, 7);
        return hall;
    }

    private static void sevenPoints() {
        Due.by(2, "@return how many there are then");
        TurnsHall hall = new TurnsHall();
        for (int x = 0; x < 7; x++) {
            int at = x;
            Due.same("place of point " + x, x + 1, () -> hall.place(at, at * at));
        }
        Due.by(2, "@throws IllegalStateException if there are 7");
        Refused.state("place of an eighth", BoundsOfPointsAndWordsTest::sevenWait, eight -> eight.place(900, 1));
        Due.by("Terms", "The shelf has points with whole numbers x and y, at most 7");
        TurnsHall full = sevenWait();
        Due.noState("place of an eighth", () -> full.place(900, 1));
        Due.same("clear of a full shelf", 7, full::clear);
        Due.same("place of an eighth then", 1, () -> full.place(900, 1));
        TurnsHall drawn = sevenWait();
        drawn.draw();
        Due.same("place when the seven were drawn", 1, () -> drawn.place(0, 0));
    }

    private static TurnsHall shelved(int... xy) {
        TurnsHall hall = new TurnsHall();
        Halls.shelve(hall, xy);
        return hall;
    }

    private static void refusePlace(int x, int y, int... waiting) {
        Refused.state("place(" + x + ", " + y + ")", () -> shelved(waiting), hall -> hall.place(x, y));
    }

    private static void placeOfAnotherOne() {
        Due.by(2, "it is at the place of another one");
        refusePlace(5, 6, 5, 6);
        refusePlace(0, 0, 0, 0);
        refusePlace(5, 6, 5, 6, 5, 7);
        refusePlace(5, 7, 5, 6, 5, 7);
        int[] three = {-1000, 1000, 4, 4, 1000, 1000};
        refusePlace(-1000, 1000, three);
        refusePlace(4, 4, three);
        refusePlace(1000, 1000, three);
        Due.by("Terms", "no two at one place");
        Due.same("the same x alone", 2, () -> shelved(5, 6).place(5, 7));
        Due.same("the same y alone", 2, () -> shelved(5, 6).place(4, 6));
        Due.same("x and y exchanged", 2, () -> shelved(5, 6).place(6, 5));
        Due.same("the other side", 2, () -> shelved(5, 6).place(-5, -6));
        Due.same("the place of one that was cleared", 1, () -> {
            TurnsHall hall = shelved(5, 6);
            hall.clear();
            return hall.place(5, 6);
        });
    }

    private static void lineWithTwo() {
        Due.by(2, "or on a line with two");
        refusePlace(4, 0, 0, 0, 10, 0);
        refusePlace(-1000, 0, 0, 0, 10, 0);
        refusePlace(1000, 0, 0, 0, 10, 0);
        refusePlace(7, 900, 7, -1000, 7, -3);
        refusePlace(1000, -1000, -1000, 1000, 1, -1);
        refusePlace(4, 8, 1, 2, 9, 0, 2, 4);
        refusePlace(30, 70, 0, 0, 10, 0, 3, 7);
        refusePlace(17, -7, 0, 1, 10, 0, 3, 7);
        int[] six = {0, 0, 10, 10, 20, 40, 30, 90, 40, 160, 50, 250};
        refusePlace(60, 340, six);
        Due.by("Terms", "no three of which lie on a line");
        Due.same("hardly beside the longest line", 3, () -> shelved(-1000, -1000, 999, 1000).place(-999, -999));
        Due.same("hardly beside it on the other side", 3, () -> shelved(-1000, -1000, 999, 1000).place(998, 999));
        Due.same("beside a level line", 3, () -> shelved(0, 0, 10, 0).place(5, 1));
        Due.same("beside an upright line", 3, () -> shelved(0, 0, 0, 10).place(-1, 5));
        Due.same("on a line with one alone", 2, () -> shelved(0, 0).place(5, 5));
    }

    private static void rangeAheadOfTheShelf() {
        Due.by("Terms", "If several exceptions apply to a call, the one that its comment lists first is thrown.");
        Refused.argument("place(1001, 1) when there are 7", BoundsOfPointsAndWordsTest::sevenWait,
                hall -> hall.place(1001, 1));
        Refused.argument("place(1, -1001) when there are 7", BoundsOfPointsAndWordsTest::sevenWait,
                hall -> hall.place(1, -1001));
        Refused.argument("place(1001, 0) on a line", () -> shelved(0, 0, 10, 0), hall -> hall.place(1001, 0));
        Refused.argument("place(0, -1001) on a line", () -> shelved(0, 0, 0, 9), hall -> hall.place(0, -1001));
    }

    private static void pointsThatClearHad() {
        Due.by(3, "@return how many points it had");
        for (int points = 0; points <= 7; points++) {
            TurnsHall hall = new TurnsHall();
            Halls.shelveHull(hall, points);
            hall.letter(2);
            Due.same("clear of " + points, points, hall::clear);
            Due.same("clear of none", 0, hall::clear);
            Due.same("the word stays", 1, hall::wipe);
        }
    }

    private static void rangeOfLetters() {
        Due.by(4, "@param letter 0 to 5");
        Due.same("letter(0)", 1, () -> new TurnsHall().letter(0));
        Due.same("letter(5)", 1, () -> new TurnsHall().letter(5));
        Due.by(4, "@throws IllegalArgumentException if letter is out of its range");
        for (int letter : new int[] {-1, 6, 7, LEAST, GREATEST}) {
            Refused.argument("letter(" + letter + ")", TurnsHall::new, hall -> hall.letter(letter));
            Refused.argument("letter(" + letter + ")", Halls::busy, hall -> hall.letter(letter));
        }
    }

    /** The word has 21 letters and is right for 7 lines. */
    private static TurnsHall fullWord() {
        TurnsHall hall = new TurnsHall();
        Halls.spellAll(hall, 7);
        return hall;
    }

    private static void twentyOneLetters() {
        Due.by(4, "@return how many there are then");
        TurnsHall hall = new TurnsHall();
        for (int count = 1; count <= 21; count++) {
            Due.same("letter " + count, count, () -> hall.letter(5));
        }
        Due.by(4, "@throws IllegalStateException if there are 21");
        for (int letter = 0; letter <= 5; letter++) {
            int more = letter;
            Refused.state("letter(" + letter + ")", BoundsOfPointsAndWordsTest::fullWord, full -> full.letter(more));
        }
        Due.by("Terms", "The word has letters, 0 to 5, at most 21.");
        Due.noState("a letter more", () -> hall.letter(5));
        Due.same("wipe of a full word", 21, hall::wipe);
        Due.same("the first letter after it", 1, () -> hall.letter(5));
    }

    private static void letterAheadOfTheWord() {
        Due.by("Terms", "the one that its comment lists first is thrown");
        for (int letter : new int[] {-1, 6}) {
            Refused.argument("letter(" + letter + ") when there are 21", BoundsOfPointsAndWordsTest::fullWord,
                    hall -> hall.letter(letter));
        }
    }

    private static void lettersThatWipeHad() {
        Due.by(5, "@return how many letters it had");
        for (int letters = 0; letters <= 21; letters++) {
            TurnsHall hall = shelved(4, 4);
            for (int count = 0; count < letters; count++) {
                hall.letter(count % 6);
            }
            Due.same("wipe of " + letters, letters, hall::wipe);
            Due.same("wipe of none", 0, hall::wipe);
            Due.same("fault of none", 0, () -> hall.fault(3));
            Due.same("the shelf stays", 1, hall::clear);
        }
    }

    private static void rangeOfLines() {
        Due.by(6, "@param lines 3 to 7");
        Due.same("fault(7)", 3, () -> Halls.busy().fault(7));
        Due.same("fault(3)", TurnsHall.NONE, () -> Halls.busy().fault(3));
        Due.by(6, "@throws IllegalArgumentException if lines is out of its range");
        for (int lines : new int[] {2, 8, 0, -1, LEAST, LEAST + 1, GREATEST}) {
            Refused.argument("fault(" + lines + ")", TurnsHall::new, hall -> hall.fault(lines));
            Refused.argument("fault(" + lines + ")", Halls::busy, hall -> hall.fault(lines));
        }
    }

    private static TurnsHall spelled(int... letters) {
        TurnsHall hall = new TurnsHall();
        Halls.spell(hall, letters);
        return hall;
    }

    private static void faultIs(int due, int lines, int... letters) {
        TurnsHall hall = spelled(letters);
        String call = "fault(" + lines + ") of " + java.util.Arrays.toString(letters);
        Due.same(call, due, () -> hall.fault(lines));
        Due.same(call + " again", due, () -> hall.fault(lines));
    }

    private static void letterAboveTheLines() {
        Due.by(6, "the place of the first letter that is above lines - 2");
        for (int lines = 3; lines <= 6; lines++) {
            faultIs(0, lines, lines - 1);
            faultIs(0, lines, 5);
            faultIs(1, lines, 0, lines - 1, lines - 1);
        }
        faultIs(2, 3, 0, 1, 2, 0);
        faultIs(3, 3, 0, 1, 0, 2);
        Due.by("Terms", "each letter is at most n - 2");
        for (int lines = 3; lines <= 7; lines++) {
            faultIs(1, lines, lines - 2);
        }
    }

    private static void linesThatCrossedAlready() {
        Due.by(6, "or lets lines cross that crossed already");
        for (int lines = 3; lines <= 7; lines++) {
            for (int letter = 0; letter <= lines - 2; letter++) {
                faultIs(1, lines, letter, letter);
            }
        }
        faultIs(3, 3, 0, 1, 0, 0);
        faultIs(3, 3, 0, 1, 0, 1);
        faultIs(3, 3, 1, 0, 1, 0);
        faultIs(3, 7, 0, 5, 2, 0);
        TurnsHall seven = new TurnsHall();
        Halls.spell(seven, 0, 1, 0, 2, 1, 0, 3, 2, 1, 0, 4, 3, 2, 1, 0, 5, 4, 3, 2, 1, 1);
        Due.same("fault at the last of 21", 20, () -> seven.fault(7));
        Due.by("Terms", "each two lines cross once");
        faultIs(TurnsHall.NONE, 3, 0, 1, 0);
        faultIs(3, 3, 0, 1, 0, 1);
        faultIs(2, 3, 0, 1);
    }

    private static void firstOfSeveralFaults() {
        Due.by(6, "the place of the first letter");
        faultIs(1, 4, 0, 0, 3);
        faultIs(1, 4, 0, 3, 0);
        faultIs(1, 4, 0, 3, 3);
        faultIs(0, 4, 5, 0, 0);
        faultIs(2, 5, 0, 2, 2, 0, 4);
    }

    private static void linesThatDoNotCross() {
        Due.by(6, "how many letters there are, if some lines do not cross");
        for (int lines = 3; lines <= 7; lines++) {
            int many = lines;
            faultIs(0, lines);
            TurnsHall hall = new TurnsHall();
            Halls.spellAll(hall, lines - 1);
            int all = (lines - 1) * (lines - 2) / 2;
            for (int letter = lines - 2; letter >= 0; letter--) {
                int count = all + lines - 2 - letter;
                Due.same("fault of " + count + " letters", count, () -> hall.fault(many));
                hall.letter(letter);
            }
            Due.same("fault of all letters", TurnsHall.NONE, () -> hall.fault(many));
        }
    }

    private static void rightWords() {
        Due.by(6, "NONE if it is right");
        for (int lines = 3; lines <= 7; lines++) {
            int many = lines;
            int all = lines * (lines - 1) / 2;
            TurnsHall hall = new TurnsHall();
            Halls.spellAll(hall, lines);
            Due.same("fault of a right word", TurnsHall.NONE, () -> hall.fault(many));
            if (lines < 7) {
                Due.same("fault for one line more", all, () -> hall.fault(many + 1));
                hall.letter(0);
                Due.same("fault of a letter too many", all, () -> hall.fault(many));
            }
            if (lines > 3) {
                Due.same("fault for one line fewer", lines - 2, () -> hall.fault(many - 1));
            }
        }
    }

    /** The lines at both edges have a neighbour on one side alone: no letter goes round from the last to the first. */
    private static void placesOfLines() {
        Due.by("Terms", "a letter p exchanges those in the places p and p + 1: they cross");
        faultIs(TurnsHall.NONE, 3, 0, 1, 0);
        faultIs(TurnsHall.NONE, 3, 1, 0, 1);
        faultIs(TurnsHall.NONE, 4, 0, 2, 1, 0, 2, 1);
        faultIs(TurnsHall.NONE, 4, 1, 0, 2, 1, 0, 2);
        faultIs(3, 4, 0, 1, 2, 2, 0, 1);
        faultIs(4, 4, 2, 0, 1, 2, 1);
        faultIs(5, 4, 2, 0, 1, 2, 0);
    }
}
