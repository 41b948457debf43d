/** Halls that several tests begin with. */
final class Halls {
    static final int BUSY_DRAWINGS = 3;

    private Halls() {
    }

    static void shelve(TurnsHall hall, int... xy) {
        for (int at = 0; at < xy.length; at += 2) {
            hall.place(xy[at], xy[at + 1]);
        }
    }

    /** Adds a drawing of these points. */
    static int draw(TurnsHall hall, int... xy) {
        shelve(hall, xy);
        return hall.draw();
    }

    /** A hall with one drawing, of these points. */
    static TurnsHall drawn(int... xy) {
        TurnsHall hall = new TurnsHall();
        draw(hall, xy);
        return hall;
    }

    static void spell(TurnsHall hall, int... letters) {
        for (int letter : letters) {
            hall.letter(letter);
        }
    }

    /** A hall with one drawing of points that all lie on their hull, going round by their names. */
    static TurnsHall convex(int points) {
        TurnsHall hall = new TurnsHall();
        shelveHull(hall, points);
        hall.draw();
        return hall;
    }

    /** A hall with one drawing of these points, each of them under the name that the order has in its place. */
    static TurnsHall named(int[] xy, int... order) {
        TurnsHall hall = new TurnsHall();
        for (int point : order) {
            hall.place(xy[2 * point], xy[2 * point + 1]);
        }
        hall.draw();
        return hall;
    }

    /** A hall with one drawing of three corners, 0, 1, 2, going round, and a point 3 within. */
    static TurnsHall middle() {
        return drawn(0, 0, 90, 0, 0, 90, 20, 21);
    }

    /**
     * A hall with something of all that there is: drawing 0 has 4 points, numbers and a triangulation, drawing 1 has 5
     * points and a triangulation with a flip, drawing 2 has 7 points and no numbers; points and letters wait.
     */
    static TurnsHall busy() {
        TurnsHall hall = middle();
        hall.triangulate(0);
        draw(hall, 0, 0, 10, 10, 20, 40, 30, 90, 40, 160);
        hall.triangulate(1);
        hall.flipEdge(1, 0, 2);
        spellAll(hall, 7);
        hall.wire(7);
        shelve(hall, 0, 1, 70, 2, 1, 80);
        spell(hall, 1, 0, 1);
        return hall;
    }

    /** A hall with 6 drawings, of 3 to 7 points; the points that wait have the signs of drawing 0, which has 3. */
    static TurnsHall full() {
        TurnsHall hall = new TurnsHall();
        spell(hall, 0, 1, 0);
        hall.wire(3);
        for (int points = 3; points <= 7; points++) {
            shelveHull(hall, points);
            hall.draw();
        }
        hall.triangulate(0);
        hall.triangulate(2);
        shelve(hall, 5, 5, 9, 5, 5, 8);
        spell(hall, 1, 0, 1);
        return hall;
    }

    /** All letters of a right word for so many lines: all signs of its drawing are 1. */
    static void spellAll(TurnsHall hall, int lines) {
        for (int round = lines - 1; round > 0; round--) {
            for (int letter = 0; letter < round; letter++) {
                hall.letter(letter);
            }
        }
    }

    /** Points that all lie on their hull, going round by their names. */
    static void shelveHull(TurnsHall hall, int points) {
        for (int x = 0; x < points; x++) {
            hall.place(x * 10, x * x * 10);
        }
    }

    /** All signs of a drawing of the hall, i below j below k, as a text of + and -; what is no sign is written out. */
    static String signs(TurnsHall hall, int drawing) {
        StringBuilder text = new StringBuilder();
        int points = hall.points(drawing);
        for (int i = 0; i < points; i++) {
            for (int j = i + 1; j < points; j++) {
                for (int k = j + 1; k < points; k++) {
                    int sign = hall.sign(drawing, i, j, k);
                    text.append(sign == 1 ? "+" : sign == -1 ? "-" : "(" + sign + ")");
                }
            }
        }
        return text.toString();
    }

    /** The segments of the triangulation of a drawing of the hall. */
    static String edges(TurnsHall hall, int drawing) {
        StringBuilder text = new StringBuilder();
        int points = hall.points(drawing);
        for (int i = 0; i < points; i++) {
            for (int j = i + 1; j < points; j++) {
                if (hall.edge(drawing, i, j)) {
                    text.append(i).append(j).append(' ');
                }
            }
        }
        return text.toString().trim();
    }
}
