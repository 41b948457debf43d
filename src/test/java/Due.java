/** What the tests stand on: it prints every call whose answer is not the one that is due. */
final class Due {
    interface Call {
        long answer();
    }

    interface Deed {
        void happen();
    }

    private static int asked = 0;
    private static int wrong = 0;
    private static String sentence = "";
    private static int askedBefore = -1;

    private Due() {
    }

    /** Names the words of the document by which the next answers are due. */
    static void by(String heading, String words) {
        endSentence();
        sentence = heading + ", \"" + words + "\": ";
        if (!Document.says(heading, words)) {
            wrong++;
            System.out.println(sentence + "the document does not say so");
        }
        askedBefore = asked;
    }

    static void by(int promise, String words) {
        by("Promise " + promise, words);
    }

    private static void endSentence() {
        if (asked == askedBefore) {
            wrong++;
            System.out.println(sentence + "no call was made");
        }
    }

    static void same(String call, long want, Call made) {
        tell(call, "" + want, outcome(made));
    }

    static void yes(String call, boolean got) {
        tell(call, "true", "" + got);
    }

    static void no(String call, boolean got) {
        tell(call, "false", "" + got);
    }

    static void noIndex(String call, Call made) {
        tell(call, "IndexOutOfBoundsException", outcome(made));
    }

    static void noArgument(String call, Call made) {
        tell(call, "IllegalArgumentException", outcome(made));
    }

    static void noState(String call, Call made) {
        tell(call, "IllegalStateException", outcome(made));
    }

    static Call of(Deed deed) {
        return () -> {
            deed.happen();
            return 0;
        };
    }

    /** The answer of a call, or the simple name of just the class that it throws. */
    static String outcome(Call made) {
        try {
            return "" + made.answer();
        } catch (RuntimeException e) {
            return e.getClass().getSimpleName();
        }
    }

    static void tell(String call, String want, String got) {
        asked++;
        if (!want.equals(got)) {
            wrong++;
            System.out.println(call + " answered " + got + ", due is " + want);
        }
    }

    static void end() {
        endSentence();
        if (asked == 0) {
            wrong++;
            System.out.println("no call was made");
        }
        System.out.println(asked + " answers, " + wrong + " not as due");
        if (wrong != 0) {
            System.exit(1);
        }
    }
}
