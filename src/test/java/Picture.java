/**
 * What can be seen of a hall, in parts, so that no part asks so much that the hall's 512 calls are used up. Most parts
 * change what they look at: each is taken of a hall of its own.
 */
final class Picture {
    static final int DRAWINGS = 6;
    static final int SHELF_COUNT = DRAWINGS;
    static final int SHELF = DRAWINGS + 1;
    static final int WORD_COUNT = DRAWINGS + 2;
    static final int WORD = DRAWINGS + 3;
    static final int PARTS = DRAWINGS + 4;

    private Picture() {
    }

    static String of(TurnsHall hall, int part) {
        return switch (part) {
            case SHELF_COUNT -> "cleared " + hall.clear();
            case SHELF -> shelf(hall);
            case WORD_COUNT -> "wiped " + hall.wipe();
            case WORD -> word(hall);
            default -> drawing(hall, part);
        };
    }

    static String drawing(TurnsHall hall, int d) {
        StringBuilder seen = new StringBuilder("of " + hall.drawings() + ", number " + d + ": ");
        if (d >= hall.drawings()) {
            return seen + "none";
        }
        seen.append(Halls.signs(hall, d)).append(" numbers");
        for (int point = 0; hall.hasNumbers(d) && point < hall.points(d); point++) {
            seen.append(' ').append(hall.number(d, point, false)).append(',').append(hall.number(d, point, true));
        }
        return seen.append(" edges ").append(Halls.edges(hall, d)).toString();
    }

    /** Adds points, as far as that can be done, and looks at all numbers; a full hall gives them to its drawing 0. */
    private static String shelf(TurnsHall hall) {
        StringBuilder seen = new StringBuilder("shelf:");
        if (hall.drawings() < DRAWINGS) {
            appendPlaces(hall, seen);
            seen.append(" drawn ").append(Due.outcome(hall::draw));
            seen.append(' ').append(drawing(hall, hall.drawings() - 1));
        } else {
            seen.append(" realized ").append(Due.outcome(() -> hall.realize(0) ? 1 : 0));
            seen.append(' ').append(drawing(hall, 0));
            appendPlaces(hall, seen);
        }
        return seen.append(" cleared ").append(hall.clear()).toString();
    }

    private static void appendPlaces(TurnsHall hall, StringBuilder seen) {
        int[] probes = {-3, 2, 90, 1, 3, 997, -500, 5, 31, 77, 640, -811};
        for (int at = 0; at < probes.length; at += 2) {
            int x = probes[at];
            int y = probes[at + 1];
            seen.append(' ').append(Due.outcome(() -> hall.place(x, y)));
        }
    }

    /** Asks for faults, makes a drawing if the word is right, else adds letters and asks again. */
    private static String word(TurnsHall hall) {
        StringBuilder seen = new StringBuilder("word:");
        appendFaults(hall, seen);
        for (int lines = 3; lines <= 7; lines++) {
            int many = lines;
            String made = Due.outcome(() -> hall.wire(many));
            seen.append(' ').append(made);
            if (!made.endsWith("Exception")) {
                seen.append(' ').append(Halls.signs(hall, hall.drawings() - 1));
            }
        }
        int[] more = {0, 1, 2, 0, 1, 3};
        for (int letter : more) {
            seen.append(' ').append(Due.outcome(() -> hall.letter(letter)));
            appendFaults(hall, seen);
        }
        return seen.append(" wiped ").append(hall.wipe()).toString();
    }

    private static void appendFaults(TurnsHall hall, StringBuilder seen) {
        for (int lines = 3; lines <= 7; lines++) {
            seen.append(' ').append(hall.fault(lines));
        }
        seen.append(';');
    }
}
