/** Halls that several tests begin with. */
final class Halls {
    private Halls() {
    }

    static void shelve(TurnsHall hall, int... xy) {
        for (int at = 0; at < xy.length; at += 2) {
            hall.place(xy[at], xy[at + 1]);
        }
    }

    /** Adds a drawing of these points. */
    static int draw(TurnsHall hall, int... xy) {
        shelve(hall, xy);
        return hall.draw();
    }

    /** A hall with one drawing, of these points. */
    static TurnsHall drawn(int... xy) {
        TurnsHall hall = new TurnsHall();
        draw(hall, xy);
        return hall;
    }

    static void spell(TurnsHall hall, int... letters) {
        for (int letter : letters) {
            hall.letter(letter);
        }
    }

    /** A hall with one drawing of points that all lie on their hull, going round by their names. */
    static TurnsHall convex(int points) {
        TurnsHall hall = new TurnsHall();
        for (int x = 0; x < points; x++) {
            hall.place(x * 10, x * x * 10);
        }
        hall.draw();
        return hall;
    }

    /** A hall with one drawing of three corners, 0, 1, 2, going round, and a point 3 within. */
    static TurnsHall middle() {
        return drawn(0, 0, 90, 0, 0, 90, 20, 21);
    }

    /** All signs of a drawing of the hall, i below j below k, as a text of + and -. */
    static String signs(TurnsHall hall, int drawing) {
        StringBuilder text = new StringBuilder();
        int points = hall.points(drawing);
        for (int i = 0; i < points; i++) {
            for (int j = i + 1; j < points; j++) {
                for (int k = j + 1; k < points; k++) {
                    text.append(hall.sign(drawing, i, j, k) == 1 ? '+' : '-');
                }
            }
        }
        return text.toString();
    }

    /** The segments of the triangulation of a drawing of the hall. */
    static String edges(TurnsHall hall, int drawing) {
        StringBuilder text = new StringBuilder();
        int points = hall.points(drawing);
        for (int i = 0; i < points; i++) {
            for (int j = i + 1; j < points; j++) {
                if (hall.edge(drawing, i, j)) {
                    text.append(i).append(j).append(' ');
                }
            }
        }
        return text.toString().trim();
    }
}
