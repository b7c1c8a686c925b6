import java.util.NoSuchElementException;

/** What the tests share: answers that are due, TAPES from texts, the end of a test. */
final class Checks {
    static final long THROWS = Long.MIN_VALUE;

    private static int wrong = 0;
    private static int made = 0;

    private Checks() {
    }

    static void due(String call, long got, long want) {
        made++;
        if (got != want) {
            wrong++;
            if (wrong <= 40) {
                System.out.println(call + " answered " + told(got) + ", due is " + told(want));
            }
        }
    }

    static void due(String call, boolean got, boolean want) {
        due(call, got ? 1 : 0, want ? 1 : 0);
    }

    static boolean anyWrong() {
        return wrong > 0;
    }

    static void end() {
        System.out.println(made + " answers looked at, " + wrong + " not as due");
        if (wrong != 0 || made == 0) {
            System.exit(1);
        }
    }

    /** Feeds a text, 24 signs a call; bytes of 0 fill the last one and are left out by the class. */
    static int feed(PastSleep x, String text) {
        int many = x.count(11);
        for (int from = 0; from < text.length(); from += 24) {
            many = x.feed(eight(text, from), eight(text, from + 8), eight(text, from + 16));
        }
        return many;
    }

    static long eight(String text, int from) {
        long eight = 0;
        for (int i = from; i < from + 8; i++) {
            eight = eight << 8 | (i < text.length() ? text.charAt(i) : 0);
        }
        return eight;
    }

    static int cabin(PastSleep x, String text) {
        feed(x, text);
        return x.cabin();
    }

    /** A new object with a CABIN, which must have no FAULT. */
    static PastSleep of(String text) {
        PastSleep x = new PastSleep();
        due("cabin of " + text, cabin(x, text), 0);
        return x;
    }

    static void fault(String text, int kind, int place) {
        PastSleep x = new PastSleep();
        due("fault of \"" + text + "\"", cabin(x, text), kind + 16 * place);
    }

    static long aisle(PastSleep x, int sitter) {
        try {
            return x.aisle(sitter);
        } catch (NoSuchElementException e) {
            return THROWS;
        }
    }

    static long beer(PastSleep x, int sitter) {
        try {
            return x.beer(sitter);
        } catch (NoSuchElementException e) {
            return THROWS;
        }
    }

    private static String told(long answer) {
        return answer == THROWS ? "throws.NoSuchElementException" : Long.toString(answer);
    }
}
