import java.util.NoSuchElementException;

/** What the tests share: answers that are due, TAPES from texts, the end of a test. */
final class Checks {
    static final long THROWS = Long.MIN_VALUE;

    private static int wrong = 0;
    private static int made = 0;
    private static String about = "";

    private Checks() {
    }

    static void due(String call, long got, long want) {
        made++;
        if (got != want) {
            wrong++;
            if (wrong <= 40) {
                System.out.println(about + call + " answered " + told(got) + ", due is " + told(want));
            }
        }
    }

    /** What follows looks at one sentence of the document that names an edge, told under a promise. */
    static void edge(int promise, String sentence) {
        about = "promise " + promise + ", \"" + sentence + "\": ";
    }

    static void due(String call, String got, String want) {
        due(call + ": " + got + " for " + want, got.equals(want), true);
    }

    static void due(String call, boolean got, boolean want) {
        due(call, got ? 1 : 0, want ? 1 : 0);
    }

    static boolean anyWrong() {
        return wrong > 0;
    }

    static void end() {
        System.out.println(made + " answers looked at, " + wrong + " not as due");
        if (wrong != 0 || made == 0) {
            System.exit(1);
        }
    }

    /** Feeds a text, 24 signs a call; bytes of 0 fill the last one and are left out by the class. */
    static int feed(PastSleep x, String text) {
        int many = x.count(11);
        for (int from = 0; from < text.length(); from += 24) {
            many = x.feed(eight(text, from), eight(text, from + 8), eight(text, from + 16));
        }
        return many;
    }

    static long eight(String text, int from) {
        long eight = 0;
        for (int i = from; i < from + 8; i++) {
            eight = eight << 8 | (i < text.length() ? text.charAt(i) : 0);
        }
        return eight;
    }

    static int cabin(PastSleep x, String text) {
        feed(x, text);
        return x.cabin();
    }

    /** A new object with a CABIN, which must have no FAULT. */
    static PastSleep of(String text) {
        PastSleep x = new PastSleep();
        due("cabin of " + text, cabin(x, text), 0);
        return x;
    }

    /** A line of a sitter: his SEAT, needs, limit, goes, depth, legs, and the TICKS of his sleep. */
    static String sitter(String name, String kind, int... of) {
        return "sitter " + name + " " + kind + " at " + of[0] + " needs " + of[1] + " limit " + of[2] + " goes " + of[3]
            + " depth " + of[4] + " legs " + of[5] + " sleeps " + of[6] + " to " + of[7] + ";";
    }

    static void fault(String text, int kind, int place) {
        PastSleep x = new PastSleep();
        due("fault of \"" + text + "\"", cabin(x, text), kind + 16 * place);
    }

    static long aisle(PastSleep x, int sitter) {
        try {
            return x.aisle(sitter);
        } catch (NoSuchElementException e) {
            return THROWS;
        }
    }

    static long beer(PastSleep x, int sitter) {
        try {
            return x.beer(sitter);
        } catch (NoSuchElementException e) {
            return THROWS;
        }
    }

    private static String told(long answer) {
        return answer == THROWS ? "throws.NoSuchElementException" : Long.toString(answer);
    }
}
