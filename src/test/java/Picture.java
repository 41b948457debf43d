/**
 * What can be seen of a hall, in parts, so that no part asks so much that the hall's 512 calls are used up. Most parts
 * change what they look at: each is taken of a hall of its own.
 */
final class Picture {
    static final int DRAWINGS = 6;
    static final int SHELF = DRAWINGS;
    static final int WORD = DRAWINGS + 1;
    static final int PARTS = DRAWINGS + 2;

    private Picture() {
    }

    static String of(TurnsHall hall, int part) {
        return switch (part) {
            case SHELF -> shelf(hall);
            case WORD -> word(hall);
            default -> drawing(hall, part);
        };
    }

    static String drawing(TurnsHall hall, int d) {
        StringBuilder seen = new StringBuilder("of " + hall.drawings() + ", number " + d + ": ");
        if (d >= hall.drawings()) {
            return seen + "none";
        }
        seen.append(Halls.signs(hall, d)).append(" numbers");
        for (int point = 0; hall.hasNumbers(d) && point < hall.points(d); point++) {
            seen.append(' ').append(hall.number(d, point, false)).append(',').append(hall.number(d, point, true));
        }
        return seen.append(" edges ").append(Halls.edges(hall, d)).toString();
    }

    /** Asks where points can be put, then gives the shelf's numbers to a drawing if there is one that takes them. */
    private static String shelf(TurnsHall hall) {
        boolean room = hall.drawings() < DRAWINGS;
        StringBuilder seen = new StringBuilder("shelf: ");
        seen.append(room ? Due.outcome(hall::draw) : Due.outcome(() -> hall.realize(0) ? 1 : 0));
        seen.append(' ').append(drawing(hall, room ? Math.max(0, hall.drawings() - 1) : 0));
        int[] probes = {0, 0, 90, 1, 3, 997, -500, 5, 31, 77, 640, -811};
        for (int at = 0; at < probes.length; at += 2) {
            int x = probes[at];
            int y = probes[at + 1];
            seen.append(' ').append(Due.outcome(() -> hall.place(x, y)));
        }
        return seen.append(" cleared ").append(hall.clear()).toString();
    }

    /** Asks for faults, makes a drawing if the word is right, else adds letters and asks again. */
    private static String word(TurnsHall hall) {
        StringBuilder seen = new StringBuilder("word:");
        appendFaults(hall, seen);
        for (int lines = 3; lines <= 7; lines++) {
            int many = lines;
            String made = Due.outcome(() -> hall.wire(many));
            seen.append(' ').append(made);
            if (!made.endsWith("Exception")) {
                seen.append(' ').append(Halls.signs(hall, hall.drawings() - 1));
            }
        }
        int[] more = {0, 1, 2, 0, 1, 3};
        for (int letter : more) {
            seen.append(' ').append(Due.outcome(() -> hall.letter(letter)));
            appendFaults(hall, seen);
        }
        return seen.append(" wiped ").append(hall.wipe()).toString();
    }

    private static void appendFaults(TurnsHall hall, StringBuilder seen) {
        for (int lines = 3; lines <= 7; lines++) {
            seen.append(' ').append(hall.fault(lines));
        }
        seen.append(';');
    }
}
