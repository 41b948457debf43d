/**
 * A hall of order without numbers: drawings of 3 to 7 points of which only the turns are known,
 * the sign of each three points. What is asked of a drawing is answered from its signs alone.
 */
public final class TurnsHall {
    public static final int NONE = -1;

    private static final int FEWEST_POINTS = 3;
    private static final int MOST_POINTS = 7;
    private static final int MOST_SEGMENTS = 21;
    private static final int MOST_DRAWINGS = 6;
    private static final int MOST_LETTERS = 21;
    private static final int HIGHEST_LETTER = 5;
    private static final int FARTHEST = 1000;
    private static final int HIGHEST_LEVEL = 2;
    private static final int MOST_POINTS_TO_EXTEND = 5;
    private static final int MOST_POINTS_TO_TRIANGULATE_ALL_WAYS = 6;

    private final Shelf shelf = new Shelf();
    private final Word word = new Word();
    private final Drawing[] hall = new Drawing[MOST_DRAWINGS];
    private int made;
    // These three are only worked with during a call; they are kept so that no call makes objects.
    private final Segments segments = new Segments();
    private final Naming naming = new Naming();
    private final Signs extended = new Signs();

    public TurnsHall() {
        for (int at = 0; at < hall.length; at++) {
            hall[at] = new Drawing();
        }
    }

    // ---- points, words

    public int place(int x, int y) throws IllegalArgumentException, IllegalStateException {
        if (x < -FARTHEST || x > FARTHEST || y < -FARTHEST || y > FARTHEST) {
            throw new IllegalArgumentException("a number is out of its range");
        }
        if (!shelf.takes(x, y)) {
            throw new IllegalStateException("the shelf is full, or the point is on a place or a line of others");
        }
        shelf.put(x, y);
        return shelf.count;
    }

    public int clear() {
        int had = shelf.count;
        shelf.count = 0;
        return had;
    }

    public int letter(int letter) throws IllegalArgumentException, IllegalStateException {
        if (letter < 0 || letter > HIGHEST_LETTER) {
            throw new IllegalArgumentException("there is no such letter");
        }
        if (word.count >= MOST_LETTERS) {
            throw new IllegalStateException("the word is full");
        }
        word.put(letter);
        return word.count;
    }

    public int wipe() {
        int had = word.count;
        word.count = 0;
        return had;
    }

    public int fault(int lines) throws IllegalArgumentException {
        checkLines(lines);
        return word.wrongAt(lines);
    }

    private static void checkLines(int lines) {
        if (lines < FEWEST_POINTS || lines > MOST_POINTS) {
            throw new IllegalArgumentException("there cannot be so many lines");
        }
    }

    // ---- drawings

    public int draw() throws IllegalStateException {
        if (shelf.count < FEWEST_POINTS) {
            throw new IllegalStateException("there are too few points");
        }
        Drawing drawing = unused();
        shelf.tell(drawing.signs);
        drawing.giveNumbers(shelf);
        shelf.count = 0;
        return finished();
    }

    public int wire(int lines) throws IllegalArgumentException, IllegalStateException {
        checkLines(lines);
        Drawing drawing = unused();
        if (word.wrongAt(lines) != NONE) {
            throw new IllegalStateException("the word is not right: fault tells where");
        }
        word.tell(drawing.signs, lines);
        word.count = 0;
        return finished();
    }

    public int copy(int drawing, boolean mirrors) throws IndexOutOfBoundsException, IllegalStateException {
        Drawing from = known(drawing);
        Drawing to = unused();
        to.signs.take(from.signs, mirrors ? -1 : 1);
        return finished();
    }

    public boolean flip(int drawing, int i, int j, int k)
            throws IndexOutOfBoundsException, IllegalArgumentException {
        Drawing at = known(drawing);
        checkPoint(at, i);
        checkPoint(at, j);
        checkPoint(at, k);
        if (i == j || i == k || j == k) {
            throw new IllegalArgumentException("two of the points are the same");
        }
        if (!at.signs.turnOver(i, j, k)) {
            return false;
        }
        at.numbered = false;
        at.triangulated = false;
        return true;
    }

    public void rename(int drawing, int i, int j) throws IndexOutOfBoundsException, IllegalArgumentException {
        Drawing at = known(drawing);
        checkPoint(at, i);
        checkPoint(at, j);
        if (i == j) {
            throw new IllegalArgumentException("both points are the same");
        }
        at.signs.exchange(i, j);
        Cells.exchange(at.xs, i, j);
        Cells.exchange(at.ys, i, j);
        at.triangulated = false;
    }

    public boolean realize(int drawing) throws IndexOutOfBoundsException {
        Drawing at = known(drawing);
        if (!shelf.turnsAs(at.signs)) {
            return false;
        }
        at.giveNumbers(shelf);
        shelf.count = 0;
        return true;
    }

    private Drawing slot(int at) {
        return at >= 0 && at < hall.length ? hall[at] : null;
    }

    private Drawing known(int drawing) {
        Drawing found = drawing < made ? slot(drawing) : null;
        if (found == null) {
            throw new IndexOutOfBoundsException("there is no such drawing");
        }
        return found;
    }

    private static void checkPoint(Drawing drawing, int point) {
        if (point < 0 || point >= drawing.signs.count) {
            throw new IndexOutOfBoundsException("there is no such point");
        }
    }

    private Drawing unused() {
        Drawing next = slot(made);
        if (next == null) {
            throw new IllegalStateException("there are as many drawings as there can be");
        }
        return next;
    }

    private int finished() {
        made++;
        return made - 1;
    }

    // ---- questions

    public int drawings() {
        return made;
    }

    public int points(int drawing) throws IndexOutOfBoundsException {
        return known(drawing).signs.count;
    }

    public boolean hasNumbers(int drawing) throws IndexOutOfBoundsException {
        return known(drawing).numbered;
    }

    public int number(int drawing, int point, boolean isY) throws IndexOutOfBoundsException, IllegalStateException {
        Drawing at = known(drawing);
        checkPoint(at, point);
        if (!at.numbered) {
            throw new IllegalStateException("the drawing has no numbers");
        }
        return Cells.get(isY ? at.ys : at.xs, point);
    }

    public int sign(int drawing, int i, int j, int k) throws IndexOutOfBoundsException {
        Drawing at = known(drawing);
        checkPoint(at, i);
        checkPoint(at, j);
        checkPoint(at, k);
        return at.signs.of(i, j, k);
    }

    public int flips(int drawing) throws IndexOutOfBoundsException {
        Signs signs = known(drawing).signs;
        int ways = 0;
        for (int i = 0; i < signs.count; i++) {
            for (int j = i + 1; j < signs.count; j++) {
                for (int k = j + 1; k < signs.count; k++) {
                    if (signs.turnOver(i, j, k)) {
                        ways++;
                        signs.put(i, j, k, -signs.of(i, j, k));
                    }
                }
            }
        }
        return ways;
    }

    public int hull(int drawing, int place) throws IndexOutOfBoundsException {
        Signs signs = known(drawing).signs;
        if (place < 0) {
            throw new IndexOutOfBoundsException("a place is not below 0");
        }
        int all = Bits.firstOnes(signs.count);
        int outer = Hulls.of(signs, all);
        if (place >= Integer.bitCount(outer)) {
            return NONE;
        }
        int point = Bits.lowest(outer);
        for (int step = 0; step < place; step++) {
            point = Hulls.after(signs, all, point);
        }
        return point;
    }

    public int layer(int drawing, int point) throws IndexOutOfBoundsException {
        Drawing at = known(drawing);
        checkPoint(at, point);
        int left = Bits.firstOnes(at.signs.count);
        int layers = 0;
        for (int round = 0; round < MOST_POINTS; round++) {
            int outer = Hulls.of(at.signs, left);
            if (Bits.has(outer, point)) {
                break;
            }
            left &= ~outer;
            layers++;
        }
        return layers;
    }

    public boolean cross(int drawing, int i, int j, int k, int l)
            throws IndexOutOfBoundsException, IllegalArgumentException {
        Drawing at = known(drawing);
        checkPoint(at, i);
        checkPoint(at, j);
        checkPoint(at, k);
        checkPoint(at, l);
        if (i == j || i == k || i == l || j == k || j == l || k == l) {
            throw new IllegalArgumentException("two of the points are the same");
        }
        return at.signs.crosses(i, j, k, l);
    }

    public int crossings(int drawing) throws IndexOutOfBoundsException {
        segments.read(known(drawing).signs);
        return segments.pairsCrossing();
    }

    public int empties(int drawing) throws IndexOutOfBoundsException {
        Signs signs = known(drawing).signs;
        int found = 0;
        for (int i = 0; i < signs.count; i++) {
            for (int j = i + 1; j < signs.count; j++) {
                for (int k = j + 1; k < signs.count; k++) {
                    if (signs.noneWithin(i, j, k)) {
                        found++;
                    }
                }
            }
        }
        return found;
    }

    public int level(int drawing, int level) throws IndexOutOfBoundsException, IllegalArgumentException {
        Signs signs = known(drawing).signs;
        if (level < 0 || level > HIGHEST_LEVEL) {
            throw new IllegalArgumentException("there is no such level");
        }
        int found = 0;
        for (int i = 0; i < signs.count; i++) {
            for (int j = i + 1; j < signs.count; j++) {
                if (signs.lesserSide(i, j) == level) {
                    found++;
                }
            }
        }
        return found;
    }

    public int matchings(int drawing, int set) throws IndexOutOfBoundsException, IllegalArgumentException {
        Signs signs = known(drawing).signs;
        if (set < 0 || set > Bits.firstOnes(signs.count)) {
            throw new IllegalArgumentException("the set has a point that there is not");
        }
        segments.read(signs);
        return Segments.waysToMatch(segments, set, 0, 0);
    }

    public int paths(int drawing) throws IndexOutOfBoundsException {
        Signs signs = known(drawing).signs;
        segments.read(signs);
        int all = Bits.firstOnes(signs.count);
        int walks = 0;
        for (int start = 0; start < signs.count; start++) {
            walks += Segments.waysToWalk(segments, start, all & ~Bits.one(start), 0, 0);
        }
        // Each path was walked from both of its ends.
        return walks / 2;
    }

    public int extensions(int drawing) throws IndexOutOfBoundsException, IllegalStateException {
        Signs signs = known(drawing).signs;
        if (signs.count > MOST_POINTS_TO_EXTEND) {
            throw new IllegalStateException("the drawing has too many points");
        }
        extended.takeWithOneMore(signs);
        return Signs.waysToSign(extended, 0, 1, 0);
    }

    public long canonical(int drawing, boolean mirrors) throws IndexOutOfBoundsException {
        return naming.leastNumber(known(drawing).signs, mirrors ? -1 : 1);
    }

    // ---- triangulations

    public int triangulate(int drawing) throws IndexOutOfBoundsException {
        Drawing at = known(drawing);
        segments.read(at.signs);
        at.edges = segments.firstTriangulation();
        at.triangulated = true;
        return Integer.bitCount(at.edges);
    }

    public int flipEdge(int drawing, int i, int j) throws IndexOutOfBoundsException, IllegalStateException {
        Drawing at = known(drawing);
        checkPoint(at, i);
        checkPoint(at, j);
        if (!at.hasEdge(i, j)) {
            throw new IllegalStateException("the segment is not in a triangulation");
        }
        for (int k = 0; k < at.signs.count; k++) {
            for (int l = 0; l < at.signs.count; l++) {
                if (at.isCorner(i, j, k, 1) && at.isCorner(i, j, l, -1) && at.signs.crosses(i, j, k, l)) {
                    at.edges = at.edges & ~Segments.bit(i, j) | Segments.bit(k, l);
                    return 10 * Math.min(k, l) + Math.max(k, l);
                }
            }
        }
        throw new IllegalStateException("the segment cannot be flipped");
    }

    public boolean edge(int drawing, int i, int j) throws IndexOutOfBoundsException {
        Drawing at = known(drawing);
        checkPoint(at, i);
        checkPoint(at, j);
        return at.hasEdge(i, j);
    }

    public int triangulations(int drawing) throws IndexOutOfBoundsException, IllegalStateException {
        Signs signs = known(drawing).signs;
        if (signs.count > MOST_POINTS_TO_TRIANGULATE_ALL_WAYS) {
            throw new IllegalStateException("the drawing has too many points");
        }
        segments.read(signs);
        return Segments.waysToFill(segments, 0, 0, 0);
    }

    /** Rows of numbers that are read and written only where they have a cell. */
    static final class Cells {
        static int get(int[] row, int at) {
            return at >= 0 && at < row.length ? row[at] : 0;
        }

        static void set(int[] row, int at, int value) {
            if (at >= 0 && at < row.length) {
                row[at] = value;
            }
        }

        static void exchange(int[] row, int i, int j) {
            int kept = get(row, i);
            set(row, i, get(row, j));
            set(row, j, kept);
        }
    }

    /** Sets of points as bits. */
    static final class Bits {
        static int one(int point) {
            return 1 << point;
        }

        static int firstOnes(int count) {
            return (1 << count) - 1;
        }

        static boolean has(int set, int point) {
            return (set & one(point)) != 0;
        }

        static int lowest(int set) {
            for (int point = 0; point < MOST_POINTS; point++) {
                if (has(set, point)) {
                    return point;
                }
            }
            return NONE;
        }
    }

    /** The points that wait to be drawn or to give their numbers. */
    static final class Shelf {
        private final int[] xs = new int[MOST_POINTS];
        private final int[] ys = new int[MOST_POINTS];
        private int count;

        private boolean takes(int x, int y) {
            if (count >= MOST_POINTS) {
                return false;
            }
            for (int i = 0; i < count; i++) {
                if (xOf(i) == x && yOf(i) == y) {
                    return false;
                }
                for (int j = i + 1; j < count; j++) {
                    if (turn(i, j, x, y) == 0) {
                        return false;
                    }
                }
            }
            return true;
        }

        private void put(int x, int y) {
            Cells.set(xs, count, x);
            Cells.set(ys, count, y);
            count++;
        }

        private int xOf(int point) {
            return Cells.get(xs, point);
        }

        private int yOf(int point) {
            return Cells.get(ys, point);
        }

        private int turn(int i, int j, int x, int y) {
            int area = (xOf(j) - xOf(i)) * (y - yOf(i)) - (x - xOf(i)) * (yOf(j) - yOf(i));
            return Integer.compare(area, 0);
        }

        private int turnOf(int i, int j, int k) {
            return turn(i, j, xOf(k), yOf(k));
        }

        private void tell(Signs signs) {
            signs.count = count;
            for (int i = 0; i < count; i++) {
                for (int j = i + 1; j < count; j++) {
                    for (int k = j + 1; k < count; k++) {
                        signs.put(i, j, k, turnOf(i, j, k));
                    }
                }
            }
        }

        private boolean turnsAs(Signs signs) {
            if (count != signs.count) {
                return false;
            }
            for (int i = 0; i < count; i++) {
                for (int j = i + 1; j < count; j++) {
                    for (int k = j + 1; k < count; k++) {
                        if (signs.of(i, j, k) != turnOf(i, j, k)) {
                            return false;
                        }
                    }
                }
            }
            return true;
        }
    }

    /** The letters that let lines cross. */
    static final class Word {
        private final int[] letters = new int[MOST_LETTERS];
        private final int[] lineAt = new int[MOST_POINTS];
        // For two lines, the lower one first, 1 more than the place of the letter that let them cross; 0 for none.
        private final int[] crossedBy = new int[MOST_POINTS * MOST_POINTS];
        private int count;

        private void put(int letter) {
            Cells.set(letters, count, letter);
            count++;
        }

        private int wrongAt(int lines) {
            startLines();
            for (int at = 0; at < count; at++) {
                int place = Cells.get(letters, at);
                if (place > lines - 2 || crossingOf(place) != 0) {
                    return at;
                }
                Cells.set(crossedBy, pairAt(place), at + 1);
                Cells.exchange(lineAt, place, place + 1);
            }
            return count < lines * (lines - 1) / 2 ? count : NONE;
        }

        private void startLines() {
            for (int line = 0; line < lineAt.length; line++) {
                lineAt[line] = line;
            }
            for (int pair = 0; pair < crossedBy.length; pair++) {
                crossedBy[pair] = 0;
            }
        }

        private int pairAt(int place) {
            int one = Cells.get(lineAt, place);
            int other = Cells.get(lineAt, place + 1);
            return pair(Math.min(one, other), Math.max(one, other));
        }

        private static int pair(int lower, int higher) {
            return lower * MOST_POINTS + higher;
        }

        private int crossingOf(int place) {
            return Cells.get(crossedBy, pairAt(place));
        }

        /** Tells the signs of a word that was just found right for so many lines. */
        private void tell(Signs signs, int lines) {
            signs.count = lines;
            for (int i = 0; i < lines; i++) {
                for (int j = i + 1; j < lines; j++) {
                    int first = Cells.get(crossedBy, pair(i, j));
                    for (int k = j + 1; k < lines; k++) {
                        int second = Cells.get(crossedBy, pair(j, k));
                        signs.put(i, j, k, first < second ? 1 : -1);
                    }
                }
            }
        }
    }

    /** The signs of some points; 0 for three that are not unlike, or whose sign is not known yet. */
    static final class Signs {
        private final int[] table = new int[MOST_POINTS * MOST_POINTS * MOST_POINTS];
        private int count;

        private int of(int i, int j, int k) {
            return Cells.get(table, cell(i, j, k));
        }

        private static int cell(int i, int j, int k) {
            return (i * MOST_POINTS + j) * MOST_POINTS + k;
        }

        private void put(int i, int j, int k, int sign) {
            Cells.set(table, cell(i, j, k), sign);
            Cells.set(table, cell(j, k, i), sign);
            Cells.set(table, cell(k, i, j), sign);
            Cells.set(table, cell(i, k, j), -sign);
            Cells.set(table, cell(k, j, i), -sign);
            Cells.set(table, cell(j, i, k), -sign);
        }

        private void take(Signs other, int factor) {
            count = other.count;
            for (int i = 0; i < count; i++) {
                for (int j = i + 1; j < count; j++) {
                    for (int k = j + 1; k < count; k++) {
                        put(i, j, k, factor * other.of(i, j, k));
                    }
                }
            }
        }

        private void takeWithOneMore(Signs other) {
            take(other, 1);
            count = other.count + 1;
            for (int i = 0; i < other.count; i++) {
                for (int j = i + 1; j < other.count; j++) {
                    put(i, j, other.count, 0);
                }
            }
        }

        private void exchange(int i, int j) {
            for (int k = 0; k < count; k++) {
                if (k == i || k == j) {
                    continue;
                }
                put(i, j, k, -of(i, j, k));
                for (int l = k + 1; l < count; l++) {
                    if (l == i || l == j) {
                        continue;
                    }
                    int kept = of(i, k, l);
                    put(i, k, l, of(j, k, l));
                    put(j, k, l, kept);
                }
            }
        }

        /** Flips three points if the signs hold then; they held before. */
        private boolean turnOver(int i, int j, int k) {
            int before = of(i, j, k);
            put(i, j, k, -before);
            if (fits(i, j, k)) {
                return true;
            }
            put(i, j, k, before);
            return false;
        }

        /** Looks only where the sign of these three has a part, as all else held before it was changed. */
        private boolean fits(int i, int j, int k) {
            for (int x = 0; x < count; x++) {
                if (x == i || x == j || x == k) {
                    continue;
                }
                if (!fourHold(i, j, k, x)) {
                    return false;
                }
                for (int y = x + 1; y < count; y++) {
                    if (y != i && y != j && y != k && !fiveHoldAround(i, j, k, x, y)) {
                        return false;
                    }
                }
            }
            return true;
        }

        // To exchange two names turns all four signs over, so that their order does not matter.
        private boolean fourHold(int a, int b, int c, int d) {
            int first = of(b, c, d);
            return first == 0 || of(a, d, c) != first || of(a, b, d) != first || of(a, c, b) != first;
        }

        private boolean fiveHoldAround(int i, int j, int k, int x, int y) {
            return fiveHold(i, j, k, x, y) && fiveHold(j, i, k, x, y) && fiveHold(k, i, j, x, y);
        }

        // To exchange two of b, c, d, e turns all three products over, so that their order does not matter.
        private boolean fiveHold(int a, int b, int c, int d, int e) {
            int first = of(a, b, c) * of(a, d, e);
            return first == 0 || of(a, b, d) * of(a, e, c) != first || of(a, b, e) * of(a, c, d) != first;
        }

        /** Counts the ways to sign the pairs from i, j on, by rising j, then i, with the last point. */
        private static int waysToSign(Signs signs, int i, int j, int depth) {
            int last = signs.count - 1;
            if (j >= last) {
                return 1;
            }
            if (depth >= MOST_SEGMENTS) {
                return 0;
            }
            int nextI = i + 1 < j ? i + 1 : 0;
            int nextJ = i + 1 < j ? j : j + 1;
            int ways = 0;
            for (int sign = -1; sign <= 1; sign += 2) {
                signs.put(i, j, last, sign);
                if (signs.fits(i, j, last)) {
                    ways += waysToSign(signs, nextI, nextJ, depth + 1);
                }
            }
            signs.put(i, j, last, 0);
            return ways;
        }

        /** Whether the segments i, j and k, l cross. */
        private boolean crosses(int i, int j, int k, int l) {
            return of(i, j, k) != of(i, j, l) && of(k, l, i) != of(k, l, j);
        }

        private boolean noneWithin(int i, int j, int k) {
            for (int p = 0; p < count; p++) {
                if (p != i && p != j && p != k && isWithin(p, i, j, k)) {
                    return false;
                }
            }
            return true;
        }

        private boolean isWithin(int p, int i, int j, int k) {
            int first = of(i, j, p);
            return of(j, k, p) == first && of(k, i, p) == first;
        }

        private int lesserSide(int i, int j) {
            int left = 0;
            for (int k = 0; k < count; k++) {
                if (of(i, j, k) == 1) {
                    left++;
                }
            }
            return Math.min(left, count - 2 - left);
        }
    }

    /** A drawing: its signs, and what was given to it and goes when they change. */
    static final class Drawing {
        private final Signs signs = new Signs();
        private final int[] xs = new int[MOST_POINTS];
        private final int[] ys = new int[MOST_POINTS];
        private boolean numbered;
        private int edges;
        private boolean triangulated;

        private void giveNumbers(Shelf shelf) {
            for (int point = 0; point < signs.count; point++) {
                Cells.set(xs, point, shelf.xOf(point));
                Cells.set(ys, point, shelf.yOf(point));
            }
            numbered = true;
        }

        private boolean hasEdge(int i, int j) {
            return triangulated && (edges & Segments.bit(i, j)) != 0;
        }

        /** Whether k is the third corner of the triangle at the segment i, j on the side of this sign. */
        private boolean isCorner(int i, int j, int k, int side) {
            return signs.of(i, j, k) == side && hasEdge(i, k) && hasEdge(j, k) && signs.noneWithin(i, j, k);
        }
    }

    /** Hulls of some of the points of a drawing, given as bits. */
    static final class Hulls {
        /** The point of the hull that follows on this one; NONE if this one is not of the hull. */
        static int after(Signs signs, int set, int point) {
            for (int other = 0; other < signs.count; other++) {
                if (other != point && Bits.has(set, other) && isSide(signs, set, point, other)) {
                    return other;
                }
            }
            return NONE;
        }

        private static boolean isSide(Signs signs, int set, int from, int to) {
            for (int point = 0; point < signs.count; point++) {
                if (point != from && point != to && Bits.has(set, point) && signs.of(from, to, point) != 1) {
                    return false;
                }
            }
            return true;
        }

        static int of(Signs signs, int set) {
            int outer = 0;
            for (int point = 0; point < signs.count; point++) {
                boolean alone = set == Bits.one(point);
                if (Bits.has(set, point) && (alone || after(signs, set, point) != NONE)) {
                    outer |= Bits.one(point);
                }
            }
            return outer;
        }
    }

    /** The segments of a drawing as bits, and for each of them those that cross it. */
    static final class Segments {
        private final int[] crossing = new int[MOST_SEGMENTS];
        private int points;

        private static int index(int i, int j) {
            int lower = Math.min(i, j);
            int higher = Math.max(i, j);
            return higher * (higher - 1) / 2 + lower;
        }

        /** The bit of a segment; 0 from a point to itself. */
        static int bit(int i, int j) {
            return i == j ? 0 : 1 << index(i, j);
        }

        private void read(Signs signs) {
            points = signs.count;
            for (int at = 0; at < crossing.length; at++) {
                crossing[at] = 0;
            }
            for (int a = 0; a < points; a++) {
                for (int b = a + 1; b < points; b++) {
                    for (int c = b + 1; c < points; c++) {
                        for (int d = c + 1; d < points; d++) {
                            note(signs, a, b, c, d);
                            note(signs, a, c, b, d);
                            note(signs, a, d, b, c);
                        }
                    }
                }
            }
        }

        private void note(Signs signs, int i, int j, int k, int l) {
            if (signs.crosses(i, j, k, l)) {
                int one = index(i, j);
                int other = index(k, l);
                Cells.set(crossing, one, Cells.get(crossing, one) | bit(k, l));
                Cells.set(crossing, other, Cells.get(crossing, other) | bit(i, j));
            }
        }

        private boolean crossesNone(int i, int j, int taken) {
            return (Cells.get(crossing, index(i, j)) & taken) == 0;
        }

        private int pairsCrossing() {
            int ends = 0;
            for (int at = 0; at < crossing.length; at++) {
                ends += Integer.bitCount(crossing[at]);
            }
            return ends / 2;
        }

        private static int waysToMatch(Segments all, int set, int taken, int depth) {
            if (set == 0) {
                return 1;
            }
            if (depth >= MOST_POINTS) {
                return 0;
            }
            int first = Bits.lowest(set);
            int ways = 0;
            for (int other = first + 1; other < all.points; other++) {
                if (Bits.has(set, other) && all.crossesNone(first, other, taken)) {
                    int left = set & ~(Bits.one(first) | Bits.one(other));
                    ways += waysToMatch(all, left, taken | bit(first, other), depth + 1);
                }
            }
            return ways;
        }

        private static int waysToWalk(Segments all, int from, int unseen, int taken, int depth) {
            if (unseen == 0) {
                return 1;
            }
            if (depth >= MOST_POINTS) {
                return 0;
            }
            int ways = 0;
            for (int to = 0; to < all.points; to++) {
                if (Bits.has(unseen, to) && all.crossesNone(from, to, taken)) {
                    ways += waysToWalk(all, to, unseen & ~Bits.one(to), taken | bit(from, to), depth + 1);
                }
            }
            return ways;
        }

        private int firstTriangulation() {
            int taken = 0;
            for (int i = 0; i < points; i++) {
                for (int j = i + 1; j < points; j++) {
                    if (crossesNone(i, j, taken)) {
                        taken |= bit(i, j);
                    }
                }
            }
            return taken;
        }

        /** Counts the triangulations that have, of the segments before this one, just those that are taken. */
        private static int waysToFill(Segments all, int segment, int taken, int barred) {
            int count = all.points * (all.points - 1) / 2;
            if (segment >= count || segment >= MOST_SEGMENTS) {
                // A set to which one could be added is no triangulation.
                return (taken | barred) == Bits.firstOnes(count) ? 1 : 0;
            }
            int bit = 1 << segment;
            int rivals = Cells.get(all.crossing, segment);
            int ways = 0;
            if ((barred & bit) == 0) {
                ways += waysToFill(all, segment + 1, taken | bit, barred | rivals);
            }
            if (rivals != 0) {
                ways += waysToFill(all, segment + 1, taken, barred);
            }
            return ways;
        }
    }

    /** The search for the least number over all ways to name the points of a drawing. */
    static final class Naming {
        // 7 points have 35 sets of three points, a bit for each.
        private static final long ABOVE_ALL_NUMBERS = 1L << 35;

        // The point that has each new name.
        private final int[] named = new int[MOST_POINTS];
        private Signs signs;
        private int factor;
        private long least;

        private long leastNumber(Signs of, int turn) {
            signs = of;
            factor = turn;
            least = ABOVE_ALL_NUMBERS;
            nameOn(this, 0, 0, 0L);
            return least;
        }

        private int bit(int i, int j, int k) {
            if (signs == null) {
                return 0;
            }
            int sign = signs.of(Cells.get(named, i), Cells.get(named, j), Cells.get(named, k));
            return sign * factor == 1 ? 1 : 0;
        }

        private int count() {
            return signs == null ? 0 : signs.count;
        }

        /** Whether a number that begins so is greater than the least one, however it goes on. */
        private boolean isTooGreat(long head, int bitsToCome) {
            return head > least >> bitsToCome;
        }

        /** Gives the next name to each point left; the head has the bits of 0, 1, 2 and so on, as far as named. */
        private static void nameOn(Naming naming, int name, int used, long head) {
            int count = naming.count();
            if (name >= count || name >= MOST_POINTS) {
                naming.finish(head);
                return;
            }
            int headBits = Math.max(0, name - 1);
            int bitsToCome = count * (count - 1) * (count - 2) / 6 - headBits;
            for (int point = 0; point < count; point++) {
                if (Bits.has(used, point)) {
                    continue;
                }
                Cells.set(naming.named, name, point);
                long longer = name < 2 ? head : head << 1 | naming.bit(0, 1, name);
                if (!naming.isTooGreat(longer, bitsToCome)) {
                    nameOn(naming, name + 1, used | Bits.one(point), longer);
                }
            }
        }

        private void finish(long head) {
            int count = count();
            int bitsToCome = count * (count - 1) * (count - 2) / 6 - (count - 2);
            long value = head;
            for (int i = 0; i < count; i++) {
                for (int j = i == 0 ? 2 : i + 1; j < count; j++) {
                    for (int k = j + 1; k < count; k++) {
                        value = value << 1 | bit(i, j, k);
                        bitsToCome--;
                        if (isTooGreat(value, bitsToCome)) {
                            return;
                        }
                    }
                }
            }
            least = value;
        }
    }
}
