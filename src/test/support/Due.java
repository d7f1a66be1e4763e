/** Counts and prints the answers that are not due. */
final class Due {
    /** A call whose answer is a number. */
    interface Call {
        long answer();
    }

    private static int wrong = 0;
    private static int looked = 0;
    private static String sentence = "";

    private Due() {
    }

    static void equal(String what, long got, long want) {
        looked++;
        if (got != want) {
            tell(what + " answered " + got + ", due is " + want);
        }
    }

    static void equal(String what, double got, double want) {
        looked++;
        if (got != want) {
            tell(what + " answered " + got + ", due is " + want);
        }
    }

    static void yes(String what, boolean got) {
        equal(what, got ? 1 : 0, 1);
    }

    static void no(String what, boolean got) {
        equal(what, got ? 1 : 0, 0);
    }

    /** The call has to throw an exception of exactly this class, and to change nothing. */
    static void thrown(StreamDesk desk, String what, Class<?> want, Call call) {
        looked++;
        long before = desk.digest();
        try {
            tell(what + " answered " + call.answer() + ", due is " + want.getSimpleName());
        } catch (RuntimeException e) {
            if (e.getClass() != want) {
                tell(what + " threw " + e + ", due is " + want.getSimpleName());
            }
        }
        equal("the digest behind " + what + ", which throws", desk.digest(), before);
    }

    /** The words of the document that the answers looked at from now on belong to. */
    static void sentence(String words) {
        sentence = words;
    }

    static void tell(String text) {
        wrong++;
        if (wrong <= 40) {
            System.out.println(shortened(text) + (sentence.isEmpty() ? "" : "\n    the document: " + sentence));
        }
    }

    /** Without the middle of a long program. */
    private static String shortened(String text) {
        int length = text.length();
        return length < 500 ? text : text.substring(0, 300) + " .. " + text.substring(length - 100);
    }

    /** Ends the test, with 1 if an answer was not due. */
    static void end() {
        System.out.println(looked + " answers looked at, " + wrong + " not as due");
        System.exit(wrong > 0 ? 1 : 0);
    }
}
