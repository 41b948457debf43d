import java.util.ArrayList;
import java.util.List;

/** The whole face once more, by the words of the document; the tests hold the program against it. */
final class SlowHall {
    private final List<int[]> shelf = new ArrayList<>();
    private final List<Integer> word = new ArrayList<>();
    private final List<SlowPlan> plans = new ArrayList<>();

    private static void index(boolean fine) {
        if (!fine) {
            throw new IndexOutOfBoundsException();
        }
    }

    private static void argument(boolean fine) {
        if (!fine) {
            throw new IllegalArgumentException();
        }
    }

    private static void state(boolean fine) {
        if (!fine) {
            throw new IllegalStateException();
        }
    }

    private SlowPlan plan(int drawing, int... points) {
        index(drawing >= 0 && drawing < plans.size());
        SlowPlan plan = plans.get(drawing);
        for (int point : points) {
            index(point >= 0 && point < plan.n);
        }
        return plan;
    }

    private static long area(int[] p, int[] q, int[] r) {
        return (long) (q[0] - p[0]) * (r[1] - p[1]) - (long) (r[0] - p[0]) * (q[1] - p[1]);
    }

    int place(int x, int y) {
        argument(Math.abs((long) x) <= 1000 && Math.abs((long) y) <= 1000);
        state(shelf.size() < 7);
        int[] added = {x, y};
        for (int[] p : shelf) {
            state(p[0] != x || p[1] != y);
        }
        for (int[] p : shelf) {
            for (int[] q : shelf) {
                state(p == q || area(p, q, added) != 0);
            }
        }
        shelf.add(added);
        return shelf.size();
    }

    int clear() {
        int had = shelf.size();
        shelf.clear();
        return had;
    }

    int letter(int letter) {
        argument(letter >= 0 && letter <= 5);
        state(word.size() < 21);
        word.add(letter);
        return word.size();
    }

    int wipe() {
        int had = word.size();
        word.clear();
        return had;
    }

    int fault(int lines) {
        argument(lines >= 3 && lines <= 7);
        return crossed(lines, new ArrayList<>());
    }

    /** Lists the pairs of lines that cross, in their order, and tells where the word is not right. */
    private int crossed(int lines, List<Integer> pairs) {
        List<Integer> order = new ArrayList<>();
        for (int line = 0; line < lines; line++) {
            order.add(line);
        }
        for (int at = 0; at < word.size(); at++) {
            int p = word.get(at);
            if (p > lines - 2) {
                return at;
            }
            int pair = SlowPlan.key(order.get(p), order.get(p + 1));
            if (pairs.contains(pair)) {
                return at;
            }
            pairs.add(pair);
            order.add(p, order.remove(p + 1));
        }
        return pairs.size() == SlowPlan.choices(lines, 2).size() ? -1 : word.size();
    }

    int draw() {
        state(shelf.size() >= 3 && plans.size() < 6);
        plans.add(ofShelf());
        shelf.clear();
        return plans.size() - 1;
    }

    private SlowPlan ofShelf() {
        SlowPlan plan = new SlowPlan(shelf.size());
        for (int[] t : SlowPlan.choices(plan.n, 3)) {
            plan.put(t[0], t[1], t[2], Long.signum(area(shelf.get(t[0]), shelf.get(t[1]), shelf.get(t[2]))));
        }
        plan.numbers = new ArrayList<>(shelf);
        return plan;
    }

    int wire(int lines) {
        argument(lines >= 3 && lines <= 7);
        state(plans.size() < 6);
        List<Integer> pairs = new ArrayList<>();
        state(crossed(lines, pairs) == -1);
        SlowPlan plan = new SlowPlan(lines);
        for (int[] t : SlowPlan.choices(lines, 3)) {
            boolean ahead = pairs.indexOf(SlowPlan.key(t[0], t[1])) < pairs.indexOf(SlowPlan.key(t[1], t[2]));
            plan.put(t[0], t[1], t[2], ahead ? 1 : -1);
        }
        plans.add(plan);
        word.clear();
        return plans.size() - 1;
    }

    int copy(int drawing, boolean mirrors) {
        SlowPlan plan = plan(drawing);
        state(plans.size() < 6);
        plans.add(plan.like(plan.ownNames(), mirrors ? -1 : 1));
        return plans.size() - 1;
    }

    boolean flip(int drawing, int i, int j, int k) {
        SlowPlan plan = plan(drawing, i, j, k);
        argument(SlowPlan.unlike(i, j, k));
        SlowPlan flipped = plan.flipped(i, j, k);
        if (!flipped.hold()) {
            return false;
        }
        plans.set(drawing, flipped);
        return true;
    }

    void rename(int drawing, int i, int j) {
        SlowPlan plan = plan(drawing, i, j);
        argument(i != j);
        int[] names = plan.ownNames();
        names[i] = j;
        names[j] = i;
        SlowPlan renamed = plan.like(names, 1);
        if (plan.numbers != null) {
            renamed.numbers = new ArrayList<>();
            for (int name : names) {
                renamed.numbers.add(plan.numbers.get(name));
            }
        }
        plans.set(drawing, renamed);
    }

    boolean realize(int drawing) {
        SlowPlan plan = plan(drawing);
        SlowPlan told = ofShelf();
        if (plan.n != told.n || !plan.signs.equals(told.signs)) {
            return false;
        }
        plan.numbers = told.numbers;
        shelf.clear();
        return true;
    }

    int drawings() {
        return plans.size();
    }

    int points(int drawing) {
        return plan(drawing).n;
    }

    boolean hasNumbers(int drawing) {
        return plan(drawing).numbers != null;
    }

    int number(int drawing, int point, boolean isY) {
        SlowPlan plan = plan(drawing, point);
        state(plan.numbers != null);
        return plan.numbers.get(point)[isY ? 1 : 0];
    }

    int sign(int drawing, int i, int j, int k) {
        return plan(drawing, i, j, k).sign(i, j, k);
    }

    int flips(int drawing) {
        return plan(drawing).flips();
    }

    int hull(int drawing, int place) {
        SlowPlan plan = plan(drawing);
        index(place >= 0);
        return plan.hull(place);
    }

    int layer(int drawing, int point) {
        return plan(drawing, point).layer(point);
    }

    boolean cross(int drawing, int i, int j, int k, int l) {
        SlowPlan plan = plan(drawing, i, j, k, l);
        argument(SlowPlan.unlike(i, j, k, l));
        return plan.cross(i, j, k, l);
    }

    int crossings(int drawing) {
        return plan(drawing).crossings();
    }

    int empties(int drawing) {
        return plan(drawing).empties();
    }

    int level(int drawing, int level) {
        SlowPlan plan = plan(drawing);
        argument(level >= 0 && level <= 2);
        return plan.level(level);
    }

    int matchings(int drawing, int set) {
        SlowPlan plan = plan(drawing);
        argument(set >= 0 && set < 1 << plan.n);
        return plan.matchings(set);
    }

    int paths(int drawing) {
        return plan(drawing).paths();
    }

    int extensions(int drawing) {
        SlowPlan plan = plan(drawing);
        state(plan.n <= 5);
        return plan.extensions();
    }

    long canonical(int drawing, boolean mirrors) {
        return plan(drawing).canonical(mirrors);
    }

    int triangulate(int drawing) {
        return plan(drawing).triangulate();
    }

    int flipEdge(int drawing, int i, int j) {
        int flipped = plan(drawing, i, j).flipEdge(i, j);
        state(flipped != -1);
        return flipped;
    }

    boolean edge(int drawing, int i, int j) {
        SlowPlan plan = plan(drawing, i, j);
        return i != j && plan.edges != null && plan.edges.contains(SlowPlan.key(i, j));
    }

    int triangulations(int drawing) {
        SlowPlan plan = plan(drawing);
        state(plan.n <= 6);
        return plan.triangulations();
    }
}
