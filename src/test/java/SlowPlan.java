import java.util.ArrayList;
import java.util.Arrays;
import java.util.List;
import java.util.Map;
import java.util.Set;
import java.util.TreeMap;
import java.util.TreeSet;

/**
 * A drawing by the words of the document, without any care for speed: it goes over all permutations, all sets of
 * segments and all signs, so that it shares no short cut with the program that it is held against.
 */
final class SlowPlan {
    final int n;
    /** By three points in order, as the digits of a number. */
    final Map<Integer, Integer> signs = new TreeMap<>();
    /** The x and y of each point; null without numbers. */
    List<int[]> numbers;
    /** By two ends in order, as the digits of a number; null without a triangulation. */
    Set<Integer> edges;

    SlowPlan(int n) {
        this.n = n;
    }

    static int key(int... points) {
        int[] sorted = points.clone();
        Arrays.sort(sorted);
        int key = 0;
        for (int point : sorted) {
            key = 10 * key + point;
        }
        return key;
    }

    private static int parity(int i, int j, int k) {
        int turned = (i > j ? 1 : 0) + (i > k ? 1 : 0) + (j > k ? 1 : 0);
        return turned % 2 == 0 ? 1 : -1;
    }

    static boolean unlike(int... points) {
        return Arrays.stream(points).distinct().count() == points.length;
    }

    int sign(int i, int j, int k) {
        return unlike(i, j, k) ? parity(i, j, k) * signs.get(key(i, j, k)) : 0;
    }

    void put(int i, int j, int k, int sign) {
        signs.put(key(i, j, k), parity(i, j, k) * sign);
    }

    SlowPlan like(int[] names, int factor) {
        SlowPlan other = new SlowPlan(n);
        for (int[] t : choices(n, 3)) {
            other.put(t[0], t[1], t[2], factor * sign(names[t[0]], names[t[1]], names[t[2]]));
        }
        return other;
    }

    int[] ownNames() {
        int[] names = new int[n];
        for (int at = 0; at < n; at++) {
            names[at] = at;
        }
        return names;
    }

    /** All ways to choose so many of the numbers below n, each rising, in rising order. */
    static List<int[]> choices(int n, int many) {
        List<int[]> all = new ArrayList<>();
        choose(n, 0, new int[many], 0, all);
        return all;
    }

    private static void choose(int n, int from, int[] chosen, int at, List<int[]> all) {
        if (at == chosen.length) {
            all.add(chosen.clone());
            return;
        }
        for (int next = from; next < n; next++) {
            chosen[at] = next;
            choose(n, next + 1, chosen, at + 1, all);
        }
    }

    static List<int[]> permutations(int n) {
        List<int[]> all = new ArrayList<>();
        permute(new int[n], 0, new boolean[n], all);
        return all;
    }

    private static void permute(int[] order, int at, boolean[] used, List<int[]> all) {
        if (at == order.length) {
            all.add(order.clone());
            return;
        }
        for (int next = 0; next < order.length; next++) {
            if (!used[next]) {
                used[next] = true;
                order[at] = next;
                permute(order, at + 1, used, all);
                used[next] = false;
            }
        }
    }

    private static boolean allSame(int... values) {
        return Arrays.stream(values).distinct().count() == 1;
    }

    boolean hold() {
        for (int[] f : choices(n, 4)) {
            int a = f[0], b = f[1], c = f[2], d = f[3];
            if (allSame(sign(b, c, d), sign(a, d, c), sign(a, b, d), sign(a, c, b))) {
                return false;
            }
        }
        for (int[] f : choices(n, 4)) {
            for (int a = 0; a < n; a++) {
                int b = f[0], c = f[1], d = f[2], e = f[3];
                if (unlike(a, b, c, d, e) && allSame(sign(a, b, c) * sign(a, d, e), sign(a, b, d) * sign(a, e, c),
                        sign(a, b, e) * sign(a, c, d))) {
                    return false;
                }
            }
        }
        return true;
    }

    SlowPlan flipped(int i, int j, int k) {
        SlowPlan other = like(ownNames(), 1);
        other.put(i, j, k, -sign(i, j, k));
        return other;
    }

    int flips() {
        int count = 0;
        for (int[] t : choices(n, 3)) {
            count += flipped(t[0], t[1], t[2]).hold() ? 1 : 0;
        }
        return count;
    }

    /** The point that follows each of these on their hull; none for those within. */
    Map<Integer, Integer> hullOf(Set<Integer> some) {
        Map<Integer, Integer> follows = new TreeMap<>();
        for (int i : some) {
            if (some.size() == 1) {
                follows.put(i, i);
            }
            for (int j : some) {
                if (i != j && some.stream().allMatch(k -> k == i || k == j || sign(i, j, k) == 1)) {
                    follows.put(i, j);
                }
            }
        }
        return follows;
    }

    Set<Integer> all() {
        Set<Integer> all = new TreeSet<>();
        for (int point = 0; point < n; point++) {
            all.add(point);
        }
        return all;
    }

    int hull(int place) {
        Map<Integer, Integer> follows = hullOf(all());
        if (place >= follows.size()) {
            return -1;
        }
        int point = follows.keySet().iterator().next();
        for (int step = 0; step < place; step++) {
            point = follows.get(point);
        }
        return point;
    }

    int layer(int point) {
        Set<Integer> others = all();
        int layer = 0;
        while (!hullOf(others).containsKey(point)) {
            others.removeAll(hullOf(others).keySet());
            layer++;
        }
        return layer;
    }

    boolean cross(int i, int j, int k, int l) {
        return unlike(i, j, k, l) && sign(i, j, k) != sign(i, j, l) && sign(k, l, i) != sign(k, l, j);
    }

    boolean cross(int segment, int other) {
        return cross(segment / 10, segment % 10, other / 10, other % 10);
    }

    List<Integer> segments() {
        List<Integer> all = new ArrayList<>();
        for (int[] pair : choices(n, 2)) {
            all.add(key(pair));
        }
        return all;
    }

    int crossings() {
        int count = 0;
        for (int one : segments()) {
            for (int other : segments()) {
                count += one < other && cross(one, other) ? 1 : 0;
            }
        }
        return count;
    }

    boolean within(int p, int i, int j, int k) {
        return unlike(p, i, j, k) && allSame(sign(i, j, p), sign(j, k, p), sign(k, i, p));
    }

    boolean empty(int i, int j, int k) {
        return all().stream().noneMatch(p -> within(p, i, j, k));
    }

    int empties() {
        int count = 0;
        for (int[] t : choices(n, 3)) {
            count += empty(t[0], t[1], t[2]) ? 1 : 0;
        }
        return count;
    }

    int level(int level) {
        int count = 0;
        for (int[] pair : choices(n, 2)) {
            long left = all().stream().filter(k -> sign(pair[0], pair[1], k) == 1).count();
            long right = all().stream().filter(k -> sign(pair[0], pair[1], k) == -1).count();
            count += Math.min(left, right) == level ? 1 : 0;
        }
        return count;
    }

    boolean plane(List<Integer> segments) {
        return segments.stream().allMatch(one -> segments.stream().noneMatch(other -> cross(one, other)));
    }

    /** Goes over all sets of half as many segments as there are points. */
    int matchings(int set) {
        if (Integer.bitCount(set) % 2 == 1) {
            return 0;
        }
        List<Integer> segments = segments();
        int count = 0;
        for (int[] chosen : choices(segments.size(), Integer.bitCount(set) / 2)) {
            List<Integer> some = Arrays.stream(chosen).mapToObj(segments::get).toList();
            int ends = 0;
            for (int segment : some) {
                ends += (1 << segment / 10) + (1 << segment % 10);
            }
            int met = 0;
            for (int segment : some) {
                met |= 1 << segment / 10 | 1 << segment % 10;
            }
            count += ends == set && met == set && plane(some) ? 1 : 0;
        }
        return count;
    }

    int paths() {
        int count = 0;
        for (int[] order : permutations(n)) {
            List<Integer> path = new ArrayList<>();
            for (int at = 1; at < n; at++) {
                path.add(key(order[at - 1], order[at]));
            }
            count += order[0] < order[n - 1] && plane(path) ? 1 : 0;
        }
        return count;
    }

    int extensions() {
        List<int[]> pairs = choices(n, 2);
        int count = 0;
        for (int ways = 0; ways < 1 << pairs.size(); ways++) {
            SlowPlan larger = new SlowPlan(n + 1);
            larger.signs.putAll(signs);
            for (int at = 0; at < pairs.size(); at++) {
                larger.put(pairs.get(at)[0], pairs.get(at)[1], n, (ways >> at & 1) == 1 ? 1 : -1);
            }
            count += larger.hold() ? 1 : 0;
        }
        return count;
    }

    long canonical(boolean mirrors) {
        List<int[]> triples = choices(n, 3);
        long least = Long.MAX_VALUE;
        for (int[] names : permutations(n)) {
            StringBuilder bits = new StringBuilder();
            for (int[] t : triples) {
                bits.append(sign(names[t[0]], names[t[1]], names[t[2]]) == (mirrors ? -1 : 1) ? '1' : '0');
            }
            least = Math.min(least, Long.parseLong(bits.toString(), 2));
        }
        return least;
    }

    int triangulate() {
        edges = new TreeSet<>();
        for (int segment : segments()) {
            if (edges.stream().noneMatch(taken -> cross(taken, segment))) {
                edges.add(segment);
            }
        }
        return edges.size();
    }

    /** The segment that stands for i, j when it is flipped; -1 if it cannot be. */
    int flipEdge(int i, int j) {
        if (edges == null || i == j || !edges.contains(key(i, j))) {
            return -1;
        }
        for (int k : all()) {
            for (int l : all()) {
                if (sign(i, j, k) == 1 && sign(i, j, l) == -1 && corner(i, j, k) && corner(i, j, l)
                        && cross(k, l, i, j)) {
                    edges.remove(key(i, j));
                    edges.add(key(k, l));
                    return key(k, l);
                }
            }
        }
        return -1;
    }

    private boolean corner(int i, int j, int k) {
        return edges.contains(key(i, k)) && edges.contains(key(j, k)) && empty(i, j, k);
    }

    int triangulations() {
        List<Integer> segments = segments();
        int[] rivals = new int[segments.size()];
        for (int one = 0; one < rivals.length; one++) {
            for (int other = 0; other < rivals.length; other++) {
                rivals[one] |= cross(segments.get(one), segments.get(other)) ? 1 << other : 0;
            }
        }
        int count = 0;
        for (int set = 0; set < 1 << rivals.length; set++) {
            count += isTriangulation(set, rivals) ? 1 : 0;
        }
        return count;
    }

    private static boolean isTriangulation(int set, int[] rivals) {
        for (int at = 0; at < rivals.length; at++) {
            boolean taken = (set >> at & 1) == 1;
            boolean free = (set & rivals[at]) == 0;
            if (taken != free) {
                return false;
            }
        }
        return true;
    }
}
