/**
 * Calls that are refused: each throws just the exception that is due, and changes nothing. That is seen by a twin,
 * a hall begun in the same way on which the call is not made: whatever is asked of both has the same answer.
 */
final class Refused {
    /** Makes a hall, a new one each time, all of them alike. */
    interface Start {
        TurnsHall begin();
    }

    interface Call {
        void on(TurnsHall hall);
    }

    interface DrawingCall {
        void on(TurnsHall hall, int drawing);
    }

    interface PointCall {
        void on(TurnsHall hall, int point);
    }

    private Refused() {
    }

    static void index(String call, Start start, Call made) {
        check("IndexOutOfBoundsException", call, start, made);
    }

    static void argument(String call, Start start, Call made) {
        check("IllegalArgumentException", call, start, made);
    }

    static void state(String call, Start start, Call made) {
        check("IllegalStateException", call, start, made);
    }

    private static void check(String want, String call, Start start, Call made) {
        for (int part = 0; part < Picture.PARTS; part++) {
            TurnsHall hall = start.begin();
            Due.tell(call, want, Due.outcome(Due.of(() -> made.on(hall))));
            Due.tell("what is there after " + call, Picture.of(start.begin(), part), Picture.of(hall, part));
        }
    }

    /** Makes the call with each kind of number that no drawing has: in a new hall, a busy one and a full one. */
    static void withoutDrawing(String call, DrawingCall made) {
        index(call + " of 0 in a new hall", TurnsHall::new, hall -> made.on(hall, 0));
        int[] wrong = {-1, Halls.BUSY_DRAWINGS, Picture.DRAWINGS, Integer.MAX_VALUE, Integer.MIN_VALUE};
        for (int drawing : wrong) {
            index(call + " of " + drawing, Halls::busy, hall -> made.on(hall, drawing));
        }
        index(call + " of 6 in a full hall", Halls::full, hall -> made.on(hall, Picture.DRAWINGS));
    }

    /** Makes the call with each kind of number that no point of drawing 0 of the busy hall has. */
    static void withoutPoint(String call, PointCall made) {
        int[] wrong = {-1, 4, 7, Integer.MAX_VALUE, Integer.MIN_VALUE};
        for (int point : wrong) {
            index(call + " with " + point, Halls::busy, hall -> made.on(hall, point));
        }
    }
}
