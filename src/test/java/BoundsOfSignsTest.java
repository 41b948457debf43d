import java.util.ArrayList;
import java.util.List;

/** What the document says of the 512 calls and of signs, over all drawings of few points and all words of few lines. */
public final class BoundsOfSignsTest {
    /** The points of all drawings of 4 and of 5 points, but for their names. */
    private static final int[][] FOURS = {
        {0, 0, 100, 0, 101, 100, 0, 90},
        {0, 0, 100, 0, 0, 100, 20, 21},
    };
    private static final int[][] FIVES = {
        {0, 0, 10, 10, 20, 40, 30, 90, 40, 160},
        {0, 0, 100, 0, 101, 100, 0, 90, 40, 61},
        {0, 0, 100, 0, 0, 100, 20, 21, 30, 45},
    };

    public static void main(String[] args) {
        lastCallChanges();
        lastCallAsks();
        lastCallAfterRefusedOnes();
        signOfNone();
        signOfPointsAlike();
        signOfPointsExchanged();
        signsOfFourHold();
        signsOfFourAlike();
        signsOfFiveHold();
        flipsOfHulls();
        signsHoldAfterManyFlips();
        signsOfWords();
        mirrorsHold();
        Due.end();
    }

    private static void lastCallChanges() {
        Due.by("What it is", "An object is used for at most 512 calls after it has been made");
        TurnsHall hall = new TurnsHall();
        for (int call = 1; call <= 508; call++) {
            int x = call % 8;
            Due.same("call " + call, x == 0 ? 7 : x, () -> x == 0 ? hall.clear() : hall.place(x, x * x));
        }
        Due.same("call 509", 5, () -> hall.place(5, 25));
        Due.same("call 510", 0, hall::draw);
        Due.yes("call 511", hall.flip(0, 0, 1, 4));
        Due.no("call 512", hall.hasNumbers(0));
    }

    private static void lastCallAsks() {
        Due.by("What it is", "at most 512 calls");
        TurnsHall hall = new TurnsHall();
        Halls.shelveHull(hall, 5);
        hall.draw();
        for (int call = 7; call <= 511; call++) {
            switch (call % 5) {
                case 0 -> Due.same("call " + call, 51, () -> hall.extensions(0));
                case 1 -> Due.same("call " + call, 5, () -> hall.triangulations(0));
                case 2 -> Due.same("call " + call, 20, () -> hall.paths(0));
                case 3 -> Due.same("call " + call, 0, () -> hall.canonical(0, false));
                default -> Due.same("call " + call, 7, () -> hall.triangulate(0));
            }
        }
        Due.same("call 512", 13, () -> hall.flipEdge(0, 0, 2));
    }

    private static void lastCallAfterRefusedOnes() {
        Due.by("What it is", "at most 512 calls after it has been made");
        TurnsHall hall = new TurnsHall();
        for (int call = 1; call <= 508; call++) {
            switch (call % 4) {
                case 0 -> Due.noState("call " + call, hall::draw);
                case 1 -> Due.noIndex("call " + call, () -> hall.copy(0, false));
                case 2 -> Due.noState("call " + call, () -> hall.wire(3));
                default -> Due.noArgument("call " + call, () -> hall.letter(6));
            }
        }
        for (int count = 1; count <= 3; count++) {
            int x = count;
            Due.same("call " + (508 + count), count, () -> hall.place(x, x * x));
        }
        Due.same("call 512", 0, hall::draw);
    }

    private static void signOfNone() {
        Due.by(17, "@throws IndexOutOfBoundsException if there is no such drawing or point");
        Refused.withoutDrawing("sign", (hall, drawing) -> hall.sign(drawing, 0, 1, 2));
        Refused.withoutDrawing("sign of points alike", (hall, drawing) -> hall.sign(drawing, 1, 1, 1));
        Refused.withoutPoint("sign i", (hall, point) -> hall.sign(0, point, 1, 2));
        Refused.withoutPoint("sign j", (hall, point) -> hall.sign(0, 0, point, 2));
        Refused.withoutPoint("sign k", (hall, point) -> hall.sign(0, 0, 1, point));
        Refused.withoutPoint("sign i beside points alike", (hall, point) -> hall.sign(0, point, 1, 1));
        Refused.withoutPoint("sign k beside points alike", (hall, point) -> hall.sign(0, 1, 1, point));
        Refused.withoutPoint("sign of thrice", (hall, point) -> hall.sign(0, point, point, point));
        Refused.index("sign with point 7 of 7", Halls::busy, hall -> hall.sign(2, 7, 6, 5));
        Refused.index("sign with point 3 of 3", Halls::full, hall -> hall.sign(0, 1, 3, 2));
    }

    private static void signOfPointsAlike() {
        Due.by("Terms", "of three that are not unlike it is 0");
        for (int points = 3; points <= 7; points++) {
            TurnsHall hall = Halls.convex(points);
            for (int i = 0; i < points; i++) {
                for (int k = 0; k < points; k++) {
                    int one = i;
                    int other = k;
                    Due.same("sign i, i, k", 0, () -> hall.sign(0, one, one, other));
                    Due.same("sign i, k, i", 0, () -> hall.sign(0, one, other, one));
                    Due.same("sign k, i, i", 0, () -> hall.sign(0, other, one, one));
                }
            }
        }
    }

    private static void signOfPointsExchanged() {
        Due.by("Terms", "a sign, 1 or -1: it is another one, if two of the three are exchanged");
        for (int points = 3; points <= 7; points++) {
            TurnsHall hall = Halls.convex(points);
            for (int[] t : SlowPlan.choices(points, 3)) {
                int i = t[0];
                int j = t[1];
                int k = t[2];
                Due.same("sign i, j, k", 1, () -> hall.sign(0, i, j, k));
                Due.same("sign j, k, i", 1, () -> hall.sign(0, j, k, i));
                Due.same("sign k, i, j", 1, () -> hall.sign(0, k, i, j));
                Due.same("sign j, i, k", -1, () -> hall.sign(0, j, i, k));
                Due.same("sign i, k, j", -1, () -> hall.sign(0, i, k, j));
                Due.same("sign k, j, i", -1, () -> hall.sign(0, k, j, i));
            }
        }
    }

    private static SlowPlan plan(TurnsHall hall, int drawing) {
        SlowPlan plan = new SlowPlan(hall.points(drawing));
        for (int[] t : SlowPlan.choices(plan.n, 3)) {
            plan.put(t[0], t[1], t[2], hall.sign(drawing, t[0], t[1], t[2]));
        }
        return plan;
    }

    /** Flips each three points of the only drawing, and back: just if the signs hold then by the document's words. */
    private static void flipEach(TurnsHall hall) {
        SlowPlan plan = plan(hall, 0);
        Due.yes("the signs hold", plan.hold());
        String signs = Halls.signs(hall, 0);
        int at = 0;
        for (int[] t : SlowPlan.choices(plan.n, 3)) {
            String three = t[0] + ", " + t[1] + ", " + t[2] + " of " + signs;
            boolean holds = plan.flipped(t[0], t[1], t[2]).hold();
            Due.tell("flip " + three, "" + holds, "" + hall.flip(0, t[0], t[1], t[2]));
            char turned = signs.charAt(at) == '+' ? '-' : '+';
            String due = signs.substring(0, at) + (holds ? turned : signs.charAt(at)) + signs.substring(at + 1);
            Due.tell("the signs after flip " + three, due, Halls.signs(hall, 0));
            if (holds) {
                Due.yes("flip back " + three, hall.flip(0, t[1], t[2], t[0]));
            }
            Due.tell("the signs at the end of flip " + three, signs, Halls.signs(hall, 0));
            at++;
        }
    }

    private static void signsOfFourHold() {
        Due.by("Terms", "the four signs of b, c, d; of a, d, c; of a, b, d; and of a, c, b, are not all the same");
        for (int[] xy : FOURS) {
            for (int[] order : SlowPlan.permutations(4)) {
                flipEach(Halls.named(xy, order));
            }
        }
    }

    private static void signsOfFourAlike() {
        Due.by("Terms", "otherwise it cannot be done");
        for (int[] order : SlowPlan.permutations(4)) {
            TurnsHall hall = Halls.named(FOURS[1], order);
            for (int middle = 0; middle < 4; middle++) {
                int[] rest = {(middle + 1) % 4, (middle + 2) % 4, (middle + 3) % 4};
                boolean within = order[middle] == 3;
                Due.tell("flip of all but " + middle, "" + !within, "" + hall.flip(0, rest[0], rest[1], rest[2]));
                if (!within) {
                    hall.flip(0, rest[0], rest[1], rest[2]);
                }
            }
        }
    }

    private static void signsOfFiveHold() {
        Due.by("Terms", "sign of a, b, c times sign of a, d, e; sign of a, b, d times sign of a, e, c; "
                + "sign of a, b, e times sign of a, c, d, not all are the same");
        for (int[] xy : FIVES) {
            for (int[] order : SlowPlan.permutations(5)) {
                flipEach(Halls.named(xy, order));
            }
        }
    }

    private static void flipsOfHulls() {
        Due.by("Terms", "To flip three points is to turn their sign into the other one");
        for (int points = 5; points <= 7; points++) {
            TurnsHall hall = Halls.convex(points);
            for (int[] t : SlowPlan.choices(points, 3)) {
                int steps = t[2] - t[0];
                boolean aside = steps == 2 || t[0] == 0 && t[2] == points - 1
                        && (t[1] == 1 || t[1] == points - 2);
                Due.tell("flip", "" + aside, "" + hall.flip(0, t[0], t[1], t[2]));
                if (aside) {
                    hall.flip(0, t[0], t[1], t[2]);
                }
            }
        }
    }

    private static void signsHoldAfterManyFlips() {
        Due.by("Terms", "The signs of a drawing always hold");
        for (int points = 4; points <= 7; points++) {
            TurnsHall hall = Halls.convex(points);
            SlowPlan due = plan(hall, 0);
            List<int[]> threes = SlowPlan.choices(points, 3);
            for (int step = 0; step < 400; step++) {
                int[] t = threes.get((step * 11 + step / threes.size()) % threes.size());
                SlowPlan flipped = due.flipped(t[0], t[1], t[2]);
                Due.tell("flip " + step, "" + flipped.hold(), "" + hall.flip(0, t[0], t[1], t[2]));
                due = flipped.hold() ? flipped : due;
            }
            Due.tell("the signs at the end", due.signs.toString(), plan(hall, 0).signs.toString());
        }
    }

    /** Goes over all right words for so many lines, each by the letters that exchange two lines still in order. */
    private static void wireAll(int lines, int[] order, List<Integer> word, List<Integer> pairs) {
        if (word.size() == lines * (lines - 1) / 2) {
            wireOne(lines, word, pairs);
            return;
        }
        for (int p = 0; p + 1 < lines; p++) {
            if (order[p] < order[p + 1]) {
                int[] then = order.clone();
                then[p] = order[p + 1];
                then[p + 1] = order[p];
                word.add(p);
                pairs.add(SlowPlan.key(order[p], order[p + 1]));
                wireAll(lines, then, word, pairs);
                word.remove(word.size() - 1);
                pairs.remove(pairs.size() - 1);
            }
        }
    }

    private static void wireOne(int lines, List<Integer> word, List<Integer> pairs) {
        TurnsHall hall = new TurnsHall();
        for (int letter : word) {
            hall.letter(letter);
        }
        Due.same("fault of " + word, TurnsHall.NONE, () -> hall.fault(lines));
        Due.same("wire of " + word, 0, () -> hall.wire(lines));
        StringBuilder due = new StringBuilder();
        for (int[] t : SlowPlan.choices(lines, 3)) {
            int ij = pairs.indexOf(SlowPlan.key(t[0], t[1]));
            int jk = pairs.indexOf(SlowPlan.key(t[1], t[2]));
            due.append(ij < jk ? '+' : '-');
        }
        Due.tell("signs of " + word, due.toString(), Halls.signs(hall, 0));
        Due.yes("the signs of " + word + " hold", plan(hall, 0).hold());
    }

    private static void signsOfWords() {
        Due.by("Terms", "for i below j below k the sign is 1, if i and j cross ahead of j and k, otherwise -1");
        for (int lines = 3; lines <= 5; lines++) {
            wireAll(lines, new int[] {0, 1, 2, 3, 4}, new ArrayList<>(), new ArrayList<>());
        }
    }

    private static void mirrorsHold() {
        Due.by("Terms", "The mirror of a drawing has all signs the other way.");
        for (int[] xy : FIVES) {
            for (int[] order : SlowPlan.permutations(5)) {
                TurnsHall hall = Halls.named(xy, order);
                hall.copy(0, true);
                String mirror = Halls.signs(hall, 0).replace('+', '0').replace('-', '+').replace('0', '-');
                Due.tell("signs of the mirror", mirror, Halls.signs(hall, 1));
                Due.yes("the mirror's signs hold", plan(hall, 1).hold());
            }
        }
    }
}
