/** Promises 22 to 25 and 31: HABITS, SEATED, AISLE, BEER, FLIGHTS. */
public final class HabitsTest {
    private static final String A = "sitter a plain at 0 needs 4 limit 9 goes 8 depth 5 legs 30 sleeps 0 to 0;";
    private static final String B = "sitter b plain at 1 needs 1 limit 9 goes 9 depth 5 legs 30 sleeps 0 to 10;";
    private static final String TWO = "row 2 flight 10;" + A + B + "price 3 0 1 0;";

    public static void main(String[] args) {
        habits();
        wakingOnTheWayBack();
        firstFromTheAisle();
        shut();
        fromTheBeginning();
        habitsOthers();
        seated();
        aisle();
        beer();
        flightsThatWake();
        flightsInVain();
        flightsAsked();
        flightsOthers();
        Checks.end();
    }

    private static void habits(PastSleep x, int who, int... due) {
        for (int what = 0; what < 3; what++) {
            Checks.due("habits " + who + " " + what, x.habits(who, what), due[what]);
        }
    }

    /** a goes at 2 (b wakes), back at 3, goes at 5 (b is awake), back at 6 (b sleeps: wakes), goes at 8 (awake). */
    private static void habits() {
        PastSleep x = Checks.of(TWO);
        habits(x, -1, 2, 0, 6);
        habits(x, 0, 3, 0, 0);
        habits(x, 1, 1, 2, 0);
    }

    private static void wakingOnTheWayBack() {
        String b = B.replace("0 to 10", "3 to 10");
        PastSleep x = Checks.of("row 2 flight 4;" + A + b + "price 3 0 1 0;");
        habits(x, -1, 1, 0, 3);
        x = Checks.of("row 2 flight 3;" + A + b + "price 3 0 1 0;");
        habits(x, -1, 0, 0, 0);
        x = Checks.of("row 2 flight 9;" + A + b + "price 3 0 1 0;queue 4;");
        habits(x, -1, 1, 0, 3);
        habits(x, 0, 1, 0, 0);
        x = Checks.of("row 2 flight 7;" + A + b + "price 3 0 1 0;queue 4;");
        habits(x, -1, 0, 0, 0);
    }

    private static void firstFromTheAisle() {
        // b is ASLEEP at 2: a goes, waking b; b goes at 3, TOO LATE once; a at 5, back at 6 waking b, who goes at once.
        String b = "sitter b plain at 1 needs 4 limit 9 goes 8 depth 5 legs 30 sleeps 2 to 10;";
        PastSleep x = Checks.of("row 2 flight 9;" + A + b);
        habits(x, 0, 3, 0, 0);
        habits(x, 1, 2, 2, 1);
        // both go at 2, b first, so a is OUT for 2; b is back at 3 and ASLEEP; a wakes b at 4; b goes at 5, a at 6;
        // b is ASLEEP at 8 and TOO LATE behind it.
        b = b.replace("sleeps 2 to 10", "sleeps 3 to 10");
        x = Checks.of("row 2 flight 9;" + A + b + "queue out;");
        habits(x, -1, 1, 1, 2);
        habits(x, 0, 2, 0, 0);
        habits(x, 1, 2, 1, 1);
    }

    private static void shut() {
        PastSleep x = Checks.of("row 2 flight 10;" + A + B + "price 3 0 1 0;belt 3 to 4;trolley 6 to 9;");
        // a goes at 2, is back at 3 though it is SHUT, goes at 5, back at 6; TOO LATE behind 8 and 9, b behind 9.
        habits(x, -1, 2, 3, 9);
        habits(x, 0, 2, 0, 2);
        habits(x, 1, 0, 2, 1);
        x = Checks.of("row 2 flight 10;" + A + B + "belt 0 to 9;");
        habits(x, -1, 0, 9, 9);
        habits(x, 0, 0, 0, 8);
        habits(x, 1, 0, 0, 1);
    }

    private static void fromTheBeginning() {
        PastSleep x = Checks.of(TWO);
        x.ticks(2);
        x.go(0, 0, 2);
        x.ticks(4);
        habits(x, -1, 2, 0, 6);
        habits(x, 1, 1, 2, 0);
        Checks.due("seated, too", x.seated(-1), 1);
        Checks.due("state stays", x.count(3), 6);
        Checks.due("wakings stay", x.count(4), 1);
    }

    private static void habitsOthers() {
        PastSleep x = Checks.of(TWO);
        Checks.due("nobody", x.habits(2, 0), -1);
        Checks.due("nobody", x.habits(-2, 0), -1);
        Checks.due("what 3", x.habits(-1, 3), -1);
        Checks.due("what -1", x.habits(-1, -1), -1);
        Checks.due("what 3 of one", x.habits(0, 3), -1);
        habits(new PastSleep(), -1, 0, 0, 0);
        Checks.due("nobody yet", new PastSleep().habits(0, 0), -1);
    }

    private static void seated() {
        PastSleep x = Checks.of(TWO);
        Checks.due("PENCE", x.seated(-1), 1);
        Checks.due("b by the window", x.seated(0), 1);
        Checks.due("a at the aisle", x.seated(1), 0);
        Checks.due("others", x.seated(2), -2);
        Checks.due("others", x.seated(-2), -2);
        Checks.due("nobody", new PastSleep().seated(-1), -2);
        Checks.due("nobody", new PastSleep().seated(0), -2);
        x = Checks.of("row 5 flight 10;" + A + B.replace("at 1", "at 4") + "price 0 0 0 0;");
        Checks.due("equal: as numbered", x.seated(0), 0);
        Checks.due("equal: as numbered", x.seated(1), 1);
        Checks.due("free SEATS are passed by", x.seated(2), -2);
        Checks.due("for nothing", x.seated(-1), 0);
        x = Checks.of("row 2 flight 10;" + A.replace("at 0", "at 1") + B.replace("at 1", "at 0") + "price 0 0 0 0;");
        Checks.due("equal: the least SEAT's sitter is the least", x.seated(0), 0);
        x.mark(0, false);
        Checks.due("another", Checks.cabin(x, TWO), 0);
        Checks.due("its own", x.seated(0), 1);
        x.mark(0, true);
        Checks.due("the marked one's", x.seated(0), 0);
        Checks.due("one alone", Checks.of("row 5 flight 10;" + A).seated(0), 0);
    }

    private static void aisle() {
        PastSleep x = Checks.of(TWO);
        Checks.due("a was never woken; b's need is not her pence", Checks.aisle(x, 0), 0);
        Checks.due("sits there", Checks.aisle(x, 1), 0);
        Checks.due("nobody", Checks.aisle(x, 2), Checks.THROWS);
        Checks.due("nobody", Checks.aisle(x, -1), Checks.THROWS);
        Checks.due("nobody", Checks.aisle(new PastSleep(), 0), Checks.THROWS);
        String a = A.replace("0 to 0", "0 to 2").replace("limit 9", "limit 40");
        String b = "sitter b plain at 1 needs 4 limit 9 goes 4 depth 5 legs 30 sleeps 0 to 0;";
        x = Checks.of("row 4 flight 3;" + a + b + "price 3 0 1 0;");
        Checks.due("at the aisle she would be woken once", Checks.aisle(x, 0), -3);
        String c = "sitter c plain at 2 needs 0 limit 9 goes 9 depth 5 legs 30 sleeps 0 to 9;";
        x = Checks.of("row 5 flight 3;" + b.replace("at 1", "at 0") + c + "price 3 0 1 0;");
        Checks.due("c is woken only by the aisle", Checks.aisle(x, 1), 0);
        x = Checks.of("row 5 flight 3;" + b.replace("at 1", "at 0") + c.replace("at 2", "at 1")
            + A.replace("at 0", "at 4").replace("sitter a", "sitter d").replace("needs 4", "needs 0") + "price 3 0 1 0;");
        Checks.due("c at the aisle is woken as well", Checks.aisle(x, 1), 0);
        Checks.due("b at the aisle saves nothing of his own", Checks.aisle(x, 0), 0);
    }

    private static void beer() {
        PastSleep x = Checks.of(TWO);
        Checks.due("b needs 2: goes at 5 and is in at 6", Checks.beer(x, 1), 1);
        Checks.due("nobody", Checks.beer(x, 2), Checks.THROWS);
        Checks.due("nobody", Checks.beer(x, -1), Checks.THROWS);
        x = Checks.of("row 2 flight 10;" + A.replace("needs 4", "needs 9"));
        Checks.due("needs are 9", Checks.beer(x, 0), Checks.THROWS);
        x = Checks.of("row 2 flight 3;" + A.replace("plain", "drinker").replace("needs 4", "needs 0").replace("goes 8", "goes 99")
            .replace("limit 9", "limit 3") + "price 0 0 7 0;");
        Checks.due("2, 4, 6: twice TOO LATE", Checks.beer(x, 0), 14);
        x = Checks.of("row 2 flight 3;" + A.replace("needs 4", "needs 8").replace("goes 8", "goes 9").replace("limit 9", "limit 15") + "price 0 0 7 0;");
        Checks.due("9 is enough to go at 1: below 0", Checks.beer(x, 0), -7);
        x = Checks.of("row 2 flight 3;" + A.replace("needs 4", "needs 8").replace("goes 8", "goes 17").replace("limit 9", "limit 20") + "price 0 0 7 0;");
        Checks.due("8, 16, 24 or 9, 18, away", Checks.beer(x, 0), -7);
    }

    /** A feigner wakes surely: FLIGHTS are as HABITS, so many times. */
    private static void flightsThatWake() {
        PastSleep x = Checks.of("row 2 flight 10;" + A + B.replace("plain", "feigner") + "price 3 0 1 0;");
        for (int many = 1; many <= 20; many += 19) {
            Checks.due("wakings", x.flights(77, many, 0), 2 * many);
            Checks.due("in vain", x.flights(77, many, 1), 0);
            Checks.due("TOO LATE", x.flights(77, many, 2), 0);
        }
    }

    /** b never wakes: a asks at each TICK from 2 on, and is TOO LATE behind each. */
    private static void flightsInVain() {
        PastSleep x = Checks.of("row 2 flight 10;" + A + B + "wake 0;");
        Checks.due("wakings", x.flights(0, 1, 0), 0);
        Checks.due("in vain", x.flights(0, 1, 1), 8);
        Checks.due("TOO LATE: a 8, b 1", x.flights(0, 1, 2), 8 + 1);
        Checks.due("three flights", x.flights(0, 3, 1), 24);
        // b sleeps from 3 on: a is out at 2 and can't come back; her need grows from TICK 3 on.
        x = Checks.of("row 2 flight 10;" + A + B.replace("0 to 10", "3 to 10") + "wake 0;");
        Checks.due("asks in vain at 3 to 9", x.flights(5, 1, 1), 7);
        Checks.due("need 12 behind 5", x.flights(5, 1, 2), 5 + 1);
    }

    /** DRAWS of the SEED 0: 12345 / 65536 is 0; the next ones by the rule. */
    private static void flightsAsked() {
        long g = 0;
        int[] draws = new int[8];
        for (int i = 0; i < draws.length; i++) {
            g = (g * 1103515245 + 12345) % 2147483648L;
            draws[i] = (int) (g / 65536 % 10);
        }
        for (int need = 1; need <= 10; need++) {
            PastSleep x = Checks.of("row 2 flight 3;" + A + B + "wake " + need + ";");
            Checks.due("wake " + need, x.flights(0, 1, 0), draws[0] < need ? 1 : 0);
            int both = (draws[0] < need ? 1 : 0) + (draws[1] < need ? 1 : 0);
            Checks.due("wake " + need + ", twice: g goes on", x.flights(0, 2, 0), both);
        }
        // asked begins at 0 in each: the first is in vain, the second wakes b at once, then she is awake.
        PastSleep x = Checks.of("row 2 flight 4;" + A + B + "wake asked*10;");
        Checks.due("once in vain in each", x.flights(3, 5, 1), 5);
        Checks.due("once woken in each", x.flights(3, 5, 0), 5);
        x.ticks(1);
        Checks.due("whatever was asked", x.flights(3, 5, 1), 5);
        x = Checks.of("row 2 flight 4;" + A + B + "cup 1;wake cup*10;");
        x.go(0, 3, 0);
        Checks.due("spilt", x.count(8), 0);
        Checks.due("cups stand: 2 wakes her", x.flights(3, 1, 1), 0);
    }

    private static void flightsOthers() {
        PastSleep x = Checks.of(TWO);
        Checks.due("seed -1", x.flights(-1, 1, 0), -1);
        Checks.due("seed 10000", x.flights(10000, 1, 0), -1);
        Checks.due("seed 9999", x.flights(9999, 1, 0) >= 0, true);
        Checks.due("many 0", x.flights(0, 0, 0), -1);
        Checks.due("many 21", x.flights(0, 21, 0), -1);
        Checks.due("what 3", x.flights(0, 1, 3), -1);
        Checks.due("what -1", x.flights(0, 1, -1), -1);
        Checks.due("nobody", new PastSleep().flights(0, 20, 0), 0);
    }
}
