/** Runs of calls that come by a written rule, each answer held against that of SlowHall. */
public final class RunsAgainstSlowHallTest {
    private static final int RUNS = 150;
    private static final int CALLS = 512;

    /** The same numbers each time. */
    private static final class Draws {
        private long state;

        Draws(long seed) {
            state = seed;
        }

        int below(int bound) {
            state = state * 6364136223846793005L + 1442695040888963407L;
            return (int) ((state >>> 33) % bound);
        }
    }

    private final TurnsHall fast = new TurnsHall();
    private final SlowHall slow = new SlowHall();
    private final Draws draws;
    private final String run;
    private int made = 0;

    private RunsAgainstSlowHallTest(int run) {
        draws = new Draws(run);
        this.run = "run " + run + ", call ";
    }

    public static void main(String[] args) {
        for (int run = 0; run < RUNS; run++) {
            new RunsAgainstSlowHallTest(run).go();
        }
        Due.end();
    }

    private void go() {
        int breadth = draws.below(3) == 0 ? 4 : 1000;
        while (made < CALLS) {
            switch (draws.below(13)) {
                case 7 -> shelveAgain();
                case 0, 1 -> shelve(breadth);
                case 2 -> spell();
                case 3 -> change();
                case 4, 5 -> triangulation();
                case 6 -> wholeDrawing();
                default -> question();
            }
        }
    }

    private void check(String call, Due.Call fastCall, Due.Call slowCall) {
        if (made >= CALLS) {
            return;
        }
        made++;
        Due.tell(run + made + ": " + call, Due.outcome(slowCall), Due.outcome(fastCall));
    }

    private static long bit(boolean yes) {
        return yes ? 1 : 0;
    }

    /** Mostly a drawing that there is. */
    private int drawing() {
        return draws.below(40) == 0 ? draws.below(9) - 1 : draws.below(Math.max(1, slow.drawings()));
    }

    /** Mostly a point that there is. */
    private int point(int d) {
        boolean known = d >= 0 && d < slow.drawings();
        return draws.below(40) == 0 ? draws.below(10) - 1 : draws.below(known ? slow.points(d) : 7);
    }

    private void shelve(int breadth) {
        int many = draws.below(8);
        for (int at = 0; at < many; at++) {
            int x = draws.below(2 * breadth + 1) - breadth + draws.below(2);
            int y = draws.below(2 * breadth + 1) - breadth - draws.below(2);
            check("place(" + x + ", " + y + ")", () -> fast.place(x, y), () -> slow.place(x, y));
        }
        int d = drawing();
        switch (draws.below(5)) {
            case 0 -> check("clear()", fast::clear, slow::clear);
            case 1 -> check("realize(" + d + ")", () -> bit(fast.realize(d)), () -> bit(slow.realize(d)));
            case 2, 3 -> check("draw()", fast::draw, slow::draw);
            default -> { }
        }
    }

    /** Puts the numbers of a drawing on the shelf once more, one of them perhaps another one, and gives them back. */
    private void shelveAgain() {
        int d = drawing();
        if (d < 0 || d >= slow.drawings() || !slow.hasNumbers(d)) {
            return;
        }
        check("clear()", fast::clear, slow::clear);
        int moved = draws.below(14);
        for (int point = 0; point < slow.points(d); point++) {
            int x = slow.number(d, point, false) + (point == moved ? draws.below(400) - 200 : 0);
            int y = slow.number(d, point, true);
            check("place(" + x + ", " + y + ")", () -> fast.place(x, y), () -> slow.place(x, y));
        }
        int i = point(d);
        int j = point(d);
        int k = point(d);
        if (draws.below(2) == 0) {
            check("flip(" + d + ", " + i + ", " + j + ", " + k + ")",
                    () -> bit(fast.flip(d, i, j, k)), () -> bit(slow.flip(d, i, j, k)));
        }
        check("realize(" + d + ")", () -> bit(fast.realize(d)), () -> bit(slow.realize(d)));
        check("hasNumbers(" + d + ")", () -> bit(fast.hasNumbers(d)), () -> bit(slow.hasNumbers(d)));
        check("number(" + d + ", " + i + ", true)", () -> fast.number(d, i, true), () -> slow.number(d, i, true));
    }

    /** Lets lines cross that did not yet, at places that the rule gives; now and then any letter. */
    private void spell() {
        int lines = 3 + draws.below(5);
        int[] order = {0, 1, 2, 3, 4, 5, 6};
        if (draws.below(4) != 0) {
            check("wipe()", fast::wipe, slow::wipe);
        }
        boolean wild = draws.below(4) == 0;
        int tries = draws.below(3) == 0 ? 10 : 300;
        for (int at = 0; at < tries; at++) {
            int p = draws.below(wild ? 6 : lines - 1);
            if (order[p] < order[p + 1] || draws.below(wild ? 8 : 2000) == 0) {
                int kept = order[p];
                order[p] = order[p + 1];
                order[p + 1] = kept;
                check("letter(" + p + ")", () -> fast.letter(p), () -> slow.letter(p));
            }
        }
        check("letter(6)", () -> fast.letter(6), () -> slow.letter(6));
        for (int n = 2; n <= 8; n++) {
            int many = n;
            check("fault(" + n + ")", () -> fast.fault(many), () -> slow.fault(many));
        }
        int asked = draws.below(10) == 0 ? draws.below(10) : lines;
        check("wire(" + asked + ")", () -> fast.wire(asked), () -> slow.wire(asked));
    }

    private void change() {
        int d = drawing();
        boolean mirrors = draws.below(2) == 0;
        if (draws.below(6) == 0) {
            check("copy(" + d + ", " + mirrors + ")", () -> fast.copy(d, mirrors), () -> slow.copy(d, mirrors));
        }
        for (int round = draws.below(12); round > 0; round--) {
            int i = point(d);
            int j = point(d);
            int k = point(d);
            check("flip(" + d + ", " + i + ", " + j + ", " + k + ")",
                    () -> bit(fast.flip(d, i, j, k)), () -> bit(slow.flip(d, i, j, k)));
        }
        if (draws.below(2) == 0) {
            int i = point(d);
            int j = point(d);
            check("rename(" + d + ", " + i + ", " + j + ")",
                    Due.of(() -> fast.rename(d, i, j)), Due.of(() -> slow.rename(d, i, j)));
        }
    }

    private void triangulation() {
        int d = drawing();
        if (draws.below(3) == 0) {
            check("triangulate(" + d + ")", () -> fast.triangulate(d), () -> slow.triangulate(d));
        }
        for (int round = draws.below(12); round > 0; round--) {
            int i = point(d);
            int j = point(d);
            String ends = "(" + d + ", " + i + ", " + j + ")";
            if (draws.below(2) == 0) {
                check("flipEdge" + ends, () -> fast.flipEdge(d, i, j), () -> slow.flipEdge(d, i, j));
            }
            check("edge" + ends, () -> bit(fast.edge(d, i, j)), () -> bit(slow.edge(d, i, j)));
        }
    }

    private void wholeDrawing() {
        check("drawings()", fast::drawings, slow::drawings);
        int d = drawing();
        check("points(" + d + ")", () -> fast.points(d), () -> slow.points(d));
        for (int[] t : SlowPlan.choices(7, 3)) {
            if (draws.below(6) == 0) {
                check("sign(" + d + ", " + t[2] + ", " + t[0] + ", " + t[1] + ")",
                        () -> fast.sign(d, t[2], t[0], t[1]), () -> slow.sign(d, t[2], t[0], t[1]));
            }
        }
        for (int at = 0; at < 8; at++) {
            int place = at;
            check("hull(" + d + ", " + at + ")", () -> fast.hull(d, place), () -> slow.hull(d, place));
            check("layer(" + d + ", " + at + ")", () -> fast.layer(d, place), () -> slow.layer(d, place));
        }
    }

    private void question() {
        int d = drawing();
        boolean flag = draws.below(2) == 0;
        int i = point(d);
        int j = point(d);
        int k = point(d);
        int l = point(d);
        int level = draws.below(5) - 1;
        int set = draws.below(140) - 2;
        String of = "(" + d + ")";
        switch (draws.below(14)) {
            case 0 -> check("hasNumbers" + of, () -> bit(fast.hasNumbers(d)), () -> bit(slow.hasNumbers(d)));
            case 1, 2 -> check("number(" + d + ", " + i + ", " + flag + ")",
                    () -> fast.number(d, i, flag), () -> slow.number(d, i, flag));
            case 3 -> check("sign(" + d + ", " + i + ", " + j + ", " + k + ")",
                    () -> fast.sign(d, i, j, k), () -> slow.sign(d, i, j, k));
            case 4 -> check("flips" + of, () -> fast.flips(d), () -> slow.flips(d));
            case 5 -> check("cross(" + d + ", " + i + ", " + j + ", " + k + ", " + l + ")",
                    () -> bit(fast.cross(d, i, j, k, l)), () -> bit(slow.cross(d, i, j, k, l)));
            case 6 -> check("crossings" + of, () -> fast.crossings(d), () -> slow.crossings(d));
            case 7 -> check("empties" + of, () -> fast.empties(d), () -> slow.empties(d));
            case 8 -> check("level(" + d + ", " + level + ")", () -> fast.level(d, level), () -> slow.level(d, level));
            case 9, 10 -> check("matchings(" + d + ", " + set + ")",
                    () -> fast.matchings(d, set), () -> slow.matchings(d, set));
            default -> dearQuestion(d, flag);
        }
    }

    private void dearQuestion(int d, boolean flag) {
        String of = "(" + d + ")";
        switch (draws.below(8)) {
            case 0, 1 -> check("extensions" + of, () -> fast.extensions(d), () -> slow.extensions(d));
            case 2, 3 -> check("triangulations" + of, () -> fast.triangulations(d), () -> slow.triangulations(d));
            case 4 -> check("paths" + of, () -> fast.paths(d), () -> slow.paths(d));
            case 5 -> check("canonical(" + d + ", " + flag + ")",
                    () -> fast.canonical(d, flag), () -> slow.canonical(d, flag));
            default -> { }
        }
    }
}
