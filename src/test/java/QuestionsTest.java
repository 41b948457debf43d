/** Promises 13 to 28: what is asked of drawings. */
public final class QuestionsTest {
    private static final int[] BINOMIAL_4 = {0, 0, 0, 0, 1, 5, 15, 35};

    public static void main(String[] args) {
        howMany();
        numbers();
        signs();
        flips();
        hulls();
        layers();
        crossing();
        crossings();
        empties();
        levels();
        matchings();
        paths();
        extensions();
        canonical();
        wrongDrawings(-1);
        wrongDrawings(1);
        wrongDrawings(6);
        wrongDrawings(Integer.MAX_VALUE);
        Due.end();
    }

    private static void howMany() {
        TurnsHall hall = new TurnsHall();
        Due.same("drawings at first", 0, hall::drawings);
        Halls.draw(hall, 0, 0, 1, 0, 0, 1);
        Halls.draw(hall, 0, 0, 1, 0, 0, 1, 5, 7);
        Due.same("drawings", 2, hall::drawings);
        Due.same("points of three", 3, () -> hall.points(0));
        Due.same("points of four", 4, () -> hall.points(1));
    }

    private static void numbers() {
        TurnsHall hall = Halls.drawn(-7, 8, 1000, -1000, 3, 4);
        Due.yes("hasNumbers", hall.hasNumbers(0));
        Due.same("x of 0", -7, () -> hall.number(0, 0, false));
        Due.same("y of 0", 8, () -> hall.number(0, 0, true));
        Due.same("x of 1", 1000, () -> hall.number(0, 1, false));
        Due.same("y of 2", 4, () -> hall.number(0, 2, true));
        Due.noIndex("number of point 3", () -> hall.number(0, 3, true));
        Due.noIndex("number of point -1", () -> hall.number(0, -1, false));
        hall.copy(0, false);
        Due.no("hasNumbers of a copy", hall.hasNumbers(1));
        Due.noState("number of a copy", () -> hall.number(1, 0, false));
        Due.noIndex("number of point 3 of a copy", () -> hall.number(1, 3, false));
    }

    private static void signs() {
        TurnsHall hall = Halls.middle();
        Due.same("sign 0 1 2", 1, () -> hall.sign(0, 0, 1, 2));
        Due.same("sign 1 2 0", 1, () -> hall.sign(0, 1, 2, 0));
        Due.same("sign 2 0 1", 1, () -> hall.sign(0, 2, 0, 1));
        Due.same("sign 0 2 1", -1, () -> hall.sign(0, 0, 2, 1));
        Due.same("sign 1 0 2", -1, () -> hall.sign(0, 1, 0, 2));
        Due.same("sign 2 1 0", -1, () -> hall.sign(0, 2, 1, 0));
        Due.same("sign 1 1 2", 0, () -> hall.sign(0, 1, 1, 2));
        Due.same("sign 1 2 1", 0, () -> hall.sign(0, 1, 2, 1));
        Due.same("sign 2 1 1", 0, () -> hall.sign(0, 2, 1, 1));
        Due.same("sign 3 3 3", 0, () -> hall.sign(0, 3, 3, 3));
        Due.noIndex("sign of point 4", () -> hall.sign(0, 4, 1, 2));
        Due.noIndex("sign of point -1", () -> hall.sign(0, 1, -1, 2));
        Due.noIndex("sign of a third point 4", () -> hall.sign(0, 1, 1, 4));
    }

    private static void flips() {
        Due.same("flips of three", 1, () -> Halls.convex(3).flips(0));
        Due.same("flips of four on a hull", 4, () -> Halls.convex(4).flips(0));
        for (int points = 5; points <= 7; points++) {
            int many = points;
            Due.same("flips of a hull of " + points, points, () -> Halls.convex(many).flips(0));
        }
        TurnsHall hall = Halls.middle();
        Due.same("flips of three and a middle", 3, () -> hall.flips(0));
        Due.tell("flips changes nothing", "++-+", Halls.signs(hall, 0));
        Due.yes("flips leaves the numbers", hall.hasNumbers(0));
    }

    private static void hulls() {
        TurnsHall hall = Halls.drawn(50, 41, 0, 0, 0, 90, 90, 90, 48, 50, 90, 0);
        int[] round = {1, 5, 3, 2, TurnsHall.NONE, TurnsHall.NONE};
        for (int at = 0; at < round.length; at++) {
            int place = at;
            Due.same("hull " + at, round[at], () -> hall.hull(0, place));
        }
        Due.same("hull far on", TurnsHall.NONE, () -> hall.hull(0, Integer.MAX_VALUE));
        Due.noIndex("hull of place -1", () -> hall.hull(0, -1));
        Due.noIndex("hull of the least place", () -> hall.hull(0, Integer.MIN_VALUE));
        TurnsHall turned = Halls.drawn(0, 0, 0, 9, 9, 0);
        Due.same("second of the other turn", 2, () -> turned.hull(0, 1));
        Due.same("third of the other turn", 1, () -> turned.hull(0, 2));
        Due.same("fourth of three", TurnsHall.NONE, () -> turned.hull(0, 3));
    }

    private static void layers() {
        TurnsHall nested = Halls.drawn(0, 0, 40, 30, 100, 1, 45, 41, 42, 35, 1, 100, 36, 41);
        int[] layers = {0, 1, 0, 1, 2, 0, 1};
        for (int at = 0; at < layers.length; at++) {
            int point = at;
            Due.same("layer of " + at, layers[at], () -> nested.layer(0, point));
        }
        TurnsHall pair = Halls.drawn(0, 0, 100, 0, 0, 100, 30, 31, 20, 22);
        Due.same("layer of one of two within", 1, () -> pair.layer(0, 3));
        Due.same("layer of the other of two within", 1, () -> pair.layer(0, 4));
        Due.same("layer of one within", 1, () -> Halls.middle().layer(0, 3));
        Due.noIndex("layer of point 7", () -> nested.layer(0, 7));
        Due.noIndex("layer of point -1", () -> nested.layer(0, -1));
    }

    private static void crossing() {
        TurnsHall hall = Halls.convex(4);
        Due.yes("both ways across", hall.cross(0, 0, 2, 1, 3));
        Due.yes("both ways across, told otherwise", hall.cross(0, 3, 1, 0, 2));
        Due.no("two sides", hall.cross(0, 0, 1, 2, 3));
        Due.no("two other sides", hall.cross(0, 1, 2, 3, 0));
        Due.no("a side beside the line of another", Halls.middle().cross(0, 0, 3, 1, 2));
        Due.noIndex("cross of point 4", () -> hall.cross(0, 4, 1, 2, 3) ? 1 : 0);
        Due.noIndex("cross of a second point -1", () -> hall.cross(0, 0, -1, 2, 3) ? 1 : 0);
        Due.noIndex("cross of a third point 4", () -> hall.cross(0, 0, 1, 4, 3) ? 1 : 0);
        Due.noIndex("cross of a fourth point 4", () -> hall.cross(0, 0, 0, 0, 4) ? 1 : 0);
        int[][] alike = {{0, 0, 1, 2}, {0, 1, 0, 2}, {0, 1, 2, 0}, {1, 0, 0, 2}, {1, 0, 2, 0}, {1, 2, 0, 0}};
        for (int[] a : alike) {
            Due.noArgument("cross of two alike", () -> hall.cross(0, a[0], a[1], a[2], a[3]) ? 1 : 0);
        }
    }

    private static void crossings() {
        for (int points = 3; points <= 7; points++) {
            int many = points;
            Due.same("crossings of a hull of " + points, BINOMIAL_4[points], () -> Halls.convex(many).crossings(0));
        }
        Due.same("crossings with a middle", 0, () -> Halls.middle().crossings(0));
        TurnsHall hall = Halls.convex(7);
        Halls.draw(hall, 0, 0, 10, 11, 0, 10, 10, 0);
        Due.same("crossings of seven", 35, () -> hall.crossings(0));
        Due.same("crossings of fewer points after more", 1, () -> hall.crossings(1));
        Due.yes("the first and the last two cross", hall.cross(1, 0, 1, 2, 3));
    }

    private static void empties() {
        int[] all = {0, 0, 0, 1, 4, 10, 20, 35};
        for (int points = 3; points <= 7; points++) {
            int many = points;
            Due.same("empties of a hull of " + points, all[points], () -> Halls.convex(many).empties(0));
        }
        TurnsHall hall = Halls.middle();
        for (int middle = 3; middle >= 0; middle--) {
            Due.same("empties with a middle " + middle, 3, () -> hall.empties(0));
            if (middle > 0) {
                hall.rename(0, middle, middle - 1);
            }
        }
    }

    private static void levels() {
        for (int level = 0; level <= 2; level++) {
            int at = level;
            Due.same("pairs of seven of level " + level, 7, () -> Halls.convex(7).level(0, at));
        }
        Due.same("sides of three", 3, () -> Halls.convex(3).level(0, 0));
        Due.same("pairs of three of level 1", 0, () -> Halls.convex(3).level(0, 1));
        Due.same("sides with a middle", 3, () -> Halls.middle().level(0, 0));
        Due.same("halves with a middle", 3, () -> Halls.middle().level(0, 1));
        Due.same("pairs of six of level 2", 3, () -> Halls.convex(6).level(0, 2));
        Due.noArgument("level -1", () -> Halls.middle().level(0, -1));
        Due.noArgument("level 3", () -> Halls.middle().level(0, 3));
        Due.noIndex("level 3 of no drawing", () -> Halls.middle().level(1, 3));
    }

    private static void matchings() {
        TurnsHall hall = Halls.convex(7);
        Due.same("matchings of no points", 1, () -> hall.matchings(0, 0));
        Due.same("matchings of one", 0, () -> hall.matchings(0, 1));
        Due.same("matchings of two", 1, () -> hall.matchings(0, 66));
        Due.same("matchings of three", 0, () -> hall.matchings(0, 7));
        Due.same("matchings of four", 2, () -> hall.matchings(0, 85));
        Due.same("matchings of six", 5, () -> hall.matchings(0, 126));
        Due.same("matchings of seven", 0, () -> hall.matchings(0, 127));
        Due.noArgument("matchings with a point 7", () -> hall.matchings(0, 128));
        Due.noArgument("matchings of -1", () -> hall.matchings(0, -1));
        Due.noArgument("matchings of the least set", () -> hall.matchings(0, Integer.MIN_VALUE));
        Due.noArgument("matchings of the greatest set", () -> hall.matchings(0, Integer.MAX_VALUE));
        Due.noIndex("matchings of -1 of no drawing", () -> hall.matchings(1, -1));
        TurnsHall middle = Halls.middle();
        Due.same("matchings with a middle", 3, () -> middle.matchings(0, 15));
        Due.noArgument("matchings with a point 4", () -> middle.matchings(0, 16));
    }

    private static void paths() {
        for (int points = 3; points <= 7; points++) {
            int many = points;
            int due = points * (1 << points) / 8;
            Due.same("paths on a hull of " + points, due, () -> Halls.convex(many).paths(0));
        }
        Due.same("paths with a middle", 12, () -> Halls.middle().paths(0));
    }

    private static void extensions() {
        Due.same("extensions of three", 7, () -> Halls.convex(3).extensions(0));
        Due.same("extensions of four on a hull", 20, () -> Halls.convex(4).extensions(0));
        Due.same("extensions with a middle", 18, () -> Halls.middle().extensions(0));
        Due.same("extensions of five on a hull", 51, () -> Halls.convex(5).extensions(0));
        Due.noState("extensions of six", () -> Halls.convex(6).extensions(0));
        Due.noState("extensions of seven", () -> Halls.convex(7).extensions(0));
        TurnsHall hall = Halls.drawn(0, 0, 100, 1, 200, -1, 50, 90, 150, 88);
        Due.same("extensions of four on a hull and one within", 47, () -> hall.extensions(0));
        Due.same("the same again", 47, () -> hall.extensions(0));
        Due.same("points after extensions", 5, () -> hall.points(0));
        Halls.draw(hall, 0, 0, 9, 0, 0, 9);
        Due.same("extensions of fewer points after more", 7, () -> hall.extensions(1));
        Halls.draw(hall, 0, 0, 100, 0, 100, 100, 150, 200);
        Due.same("extensions of four, one within", 18, () -> hall.extensions(2));
        Due.same("extensions of fewer points after those", 7, () -> hall.extensions(1));
    }

    private static void canonical() {
        for (int points = 3; points <= 7; points++) {
            int many = points;
            Due.same("canonical of a hull of " + points, 0, () -> Halls.convex(many).canonical(0, false));
            Due.same("canonical of its mirror", 0, () -> Halls.convex(many).canonical(0, true));
        }
        Due.same("canonical with a middle", 1, () -> Halls.middle().canonical(0, false));
        Due.same("canonical of its mirror", 1, () -> Halls.middle().canonical(0, true));
        TurnsHall hall = Halls.drawn(0, 0, 1000, -3, 500, 900, 480, 200, 510, 300, 400, 310, 610, 150);
        Due.same("canonical of seven", 389043, () -> hall.canonical(0, false));
        Due.same("canonical of the mirror of seven", 520115, () -> hall.canonical(0, true));
        hall.copy(0, true);
        Due.same("canonical of a mirrored copy", 520115, () -> hall.canonical(1, false));
        Due.same("canonical of its mirror", 389043, () -> hall.canonical(1, true));
        hall.rename(0, 2, 5);
        hall.rename(0, 0, 6);
        Due.same("canonical under other names", 389043, () -> hall.canonical(0, false));
    }

    private static void wrongDrawings(int drawing) {
        TurnsHall hall = Halls.middle();
        Due.noIndex("points", () -> hall.points(drawing));
        Due.noIndex("hasNumbers", () -> hall.hasNumbers(drawing) ? 1 : 0);
        Due.noIndex("number", () -> hall.number(drawing, 0, false));
        Due.noIndex("sign", () -> hall.sign(drawing, 0, 1, 2));
        Due.noIndex("flips", () -> hall.flips(drawing));
        Due.noIndex("hull", () -> hall.hull(drawing, 0));
        Due.noIndex("layer", () -> hall.layer(drawing, 0));
        Due.noIndex("cross", () -> hall.cross(drawing, 0, 1, 2, 3) ? 1 : 0);
        Due.noIndex("cross of points alike", () -> hall.cross(drawing, 0, 0, 2, 3) ? 1 : 0);
        Due.noIndex("crossings", () -> hall.crossings(drawing));
        Due.noIndex("empties", () -> hall.empties(drawing));
        Due.noIndex("level", () -> hall.level(drawing, 0));
        Due.noIndex("matchings", () -> hall.matchings(drawing, 0));
        Due.noIndex("paths", () -> hall.paths(drawing));
        Due.noIndex("extensions", () -> hall.extensions(drawing));
        Due.noIndex("canonical", () -> hall.canonical(drawing, false));
        Due.noIndex("triangulate", () -> hall.triangulate(drawing));
        Due.noIndex("flipEdge", () -> hall.flipEdge(drawing, 0, 1));
        Due.noIndex("edge", () -> hall.edge(drawing, 0, 1) ? 1 : 0);
        Due.noIndex("triangulations", () -> hall.triangulations(drawing));
    }
}
