/** Promises 26 to 30, 32, 33: RESTS, touches and TRULY, WENT and FITS, MARKS, counts. */
public final class TellsTest {
    private static final String A = "sitter a plain at 0 needs 4 limit 9 goes 8 depth 5 legs 30 sleeps 0 to 0;";
    private static final String B = "sitter b plain at 1 needs 1 limit 9 goes 9 depth 5 legs 30 sleeps 0 to 10;";
    private static final String TWO = "row 2 flight 10;" + A + B + "price 3 0 1 0;";

    public static void main(String[] args) {
        restsOfTwo();
        restsOfThree();
        restsBehindTheEnd();
        restsOthers();
        touches();
        trulyNever();
        fits();
        fitsNone();
        went();
        marks();
        marksHoldAll();
        counts();
        Checks.end();
    }

    /** a pays 3 if b, nearer to the aisle, goes at another TICK; a's need is above 9 from the 3rd on, b's from the 10th. */
    private static void restsOfTwo() {
        PastSleep x = Checks.of(TWO);
        Checks.due("how many", x.rests(3, -1), 24);
        int[] due = {0, 3, 4, 5, 6, 7, 8, 9};
        for (int i = 0; i < due.length; i++) {
            Checks.due("rest " + i, x.rests(3, i), due[i]);
        }
        Checks.due("1, 1", x.rests(3, 8), 13);
        Checks.due("the last", x.rests(3, 23), 2 * 12 + 9);
        Checks.due("none such", x.rests(3, 24), -1);
        x.ticks(2);
        Checks.due("from TICK 2 on a can go at once only: with each of b's 0 to 7", x.rests(3, -1), 8);
        Checks.due("0, 7", x.rests(3, 7), 7);
        String b = B.replace("sitter b", "sitter z").replace("limit 9", "limit 49");
        x = Checks.of("row 3 flight 10;" + A.replace("at 0", "at 1") + b.replace("at 1", "at 0"));
        // z pays 4 till TICK 9, 3 at 10 and 11, and 3 more if a goes at another TICK: so z goes with a, at 0 to 2.
        Checks.due("a at 0 to 2, z with a", x.rests(3, -1), 3);
        Checks.due("1, 1", x.rests(3, 1), 13);
        x = Checks.of("row 3 flight 10;" + b.replace("needs 1", "needs 9").replace("limit 49", "limit 99") + A.replace("at 0", "at 2"));
        // z pays 9, 9, 8, 7, 6, 5, 4, 3, 2, 1, 0, 0 and 3 more, so goes at 10 or 11; a at 0 to 2.
        Checks.due("z's digit is the highest", x.rests(3, 0), 10 * 12);
        Checks.due("and a's the lowest", x.rests(3, 1), 10 * 12 + 1);
        Checks.due("six", x.rests(3, -1), 6);
    }

    private static void restsOfThree() {
        String c = "sitter c plain at 2 needs 9 limit 8 goes 9 depth 5 legs 30 sleeps 0 to 0;";
        PastSleep x = Checks.of("row 3 flight 10;" + A + B + c);
        // c must go at 0; b pays 3 but at 0; a pays 6 but with both.
        Checks.due("all at 0", x.rests(7, -1), 1);
        Checks.due("all at 0", x.rests(7, 0), 0);
        x = Checks.of("row 3 flight 10;" + A + B + c.replace("needs 9", "needs 0"));
        // c may go at any; b with c if by 9, a with both: 0 to 2 free, 3 to 9 not with a, 10 and 11 neither.
        // b with c at 3 to 9: a pays 6 at 0 to 2; c at 10, 11: b is anywhere by 9, a with b if by 2.
        Checks.due("how many", x.rests(7, -1), 3 + 7 * 3 + 2 * (3 + 7 * 3));
        Checks.due("first", x.rests(7, 0), 0);
        Checks.due("second: a 0, b 0, c 10", x.rests(7, 1), 10);
        Checks.due("of a and c", x.rests(5, -1), 3 + 9 * 3);
    }

    private static void restsBehindTheEnd() {
        PastSleep x = Checks.of("row 2 flight 1;" + A + B);
        Checks.due("as if TICKS went on", x.rests(3, -1), 24);
        x.ticks(1);
        Checks.due("behind the end: a 4, 8; b 1 to 9", x.rests(3, -1), 2 + 7 * 2);
        x = Checks.of(TWO);
        x.ticks(2);
        x.go(0, 0, 2);
        Checks.due("need 0 behind a TICK OUT: 0 to 3", x.rests(3, -1), 4 + 4 * 4);
    }

    private static void restsOthers() {
        PastSleep x = Checks.of(TWO);
        for (int set : new int[] {0, 1, 2, 4, 5, 7, 8, -1, 1 << 30 | 1, Integer.MIN_VALUE, Integer.MIN_VALUE | 3}) {
            Checks.due("set " + set, x.rests(set, -1), -1);
            Checks.due("set " + set, x.rests(set, 0), -1);
        }
        Checks.due("what -2", x.rests(3, -2), -1);
        String five = "row 5 flight 10;" + A + B + A.replace("sitter a", "sitter c").replace("at 0", "at 2")
            + A.replace("sitter a", "sitter d").replace("at 0", "at 3");
        x = Checks.of(five);
        Checks.due("four", x.rests(15, -1), -1);
        Checks.due("three", x.rests(14, -1) > 0, true);
    }

    private static void touches() {
        PastSleep x = Checks.of(TWO + "feign 8;");
        truly(x, 0, 1, 2);
        Checks.due("moved", x.touch(0, true), true);
        truly(x, 0, 8, 13);
        Checks.due("another's", x.truly(1, 1), 2);
        Checks.due("not", x.touch(0, false), true);
        truly(x, 0, 16, 41);
        for (int i = 2; i < 15; i++) {
            Checks.due("touch " + i, x.touch(0, true), true);
        }
        Checks.due("15 are told", x.touch(0, true), false);
        Checks.due("15 are told", x.touch(0, false), false);
        long feigns = 2 * (1L << 42);
        long sleeps = 6103515625L * 5;
        Checks.due("8^14 * 2", x.truly(0, 0), feigns);
        Checks.due("and 5^15", x.truly(0, 1), feigns + sleeps);
        Checks.due("another's", x.touch(1, false), true);
        truly(x, 1, 2, 7);
        Checks.due("nobody", x.touch(2, true), false);
        Checks.due("nobody", x.touch(-1, true), false);
        Checks.due("nobody", x.truly(2, 0), -1);
        Checks.due("nobody", x.truly(-1, 0), -1);
        Checks.due("what 2", x.truly(0, 2), -1);
        Checks.due("what -1", x.truly(0, -1), -1);
        x = Checks.of("row 2 flight 10;" + A.replace("plain", "light") + B.replace("plain", "feigner"));
        x.touch(0, true);
        truly(x, 0, 9, 14);
        x.touch(1, true);
        truly(x, 1, 9, 14);
    }

    private static void truly(PastSleep x, int who, long above, long below) {
        Checks.due("truly " + who + " above", x.truly(who, 0), above);
        Checks.due("truly " + who + " below", x.truly(who, 1), below);
    }

    private static void trulyNever() {
        PastSleep x = Checks.of("row 2 flight 10;" + A.replace("depth 5", "depth 0") + B + "feign 10;");
        x.touch(1, false);
        truly(x, 1, 0, 1);
        x.touch(0, false);
        Checks.due("neither stays still", x.truly(0, 0), -1);
        Checks.due("neither stays still", x.truly(0, 1), -1);
        x = Checks.of("row 2 flight 10;" + A.replace("depth 5", "depth 0") + B + "feign 0;");
        x.touch(0, false);
        truly(x, 0, 1, 1);
        x.touch(1, true);
        truly(x, 1, 0, 1);
    }

    private static void fits() {
        PastSleep x = Checks.of(TWO);
        Checks.due("nothing is told", x.fits(0, 0), -1);
        Checks.due("nothing is told", x.fits(0, 1), -1);
        x.went(0, 2);
        Checks.due("first at 2: goes above needs, to twice that", x.fits(0, 0), 45);
        Checks.due("1, 2", x.fits(0, 1), 102);
        x.went(0, 5);
        Checks.due("back at 3, again at 5", x.fits(0, 0), 45);
        Checks.due("another's", x.fits(1, 0), -1);
        x.went(1, 1);
        Checks.due("at 1: goes to needs", x.fits(1, 0), 45);
        Checks.due("1, 1", x.fits(1, 1), 101);
        x.went(1, 3);
        Checks.due("again", x.fits(1, 0), 45);
        x = Checks.of(TWO);
        x.went(0, 50);
        Checks.due("1, 50; 2, 99", x.fits(0, 0), 2);
        Checks.due("1, 50", x.fits(0, 1), 150);
        x.went(1, 20);
        Checks.due("needs 1: 20; 2: 39, 40; 3: 58 to 60; 4: 77 to 80; 5: 96 to 99", x.fits(1, 0), 1 + 2 + 3 + 4 + 4);
        x.went(1, 41);
        Checks.due("behind 20, 1 more", x.fits(1, 0), 14);
    }

    private static void fitsNone() {
        PastSleep x = Checks.of(TWO);
        x.went(0, 0);
        Checks.due("need is 0 at TICK 0", x.fits(0, 0), -1);
        Checks.due("need is 0 at TICK 0", x.fits(0, 1), -1);
        x.went(1, 2);
        x.went(1, 4);
        Checks.due("too soon", x.fits(1, 0), -1);
        Checks.due("too soon", x.fits(1, 1), -1);
        Checks.due("nobody", x.fits(2, 0), -1);
        Checks.due("nobody", x.fits(-1, 0), -1);
        Checks.due("what 2", x.fits(1, 2), -1);
        Checks.due("what -1", x.fits(1, -1), -1);
        x = Checks.of(TWO);
        x.went(0, 2);
        x.went(0, 6);
        Checks.due("too late", x.fits(0, 0), -1);
    }

    private static void went() {
        PastSleep x = Checks.of(TWO);
        Checks.due("-1", x.went(0, -1), false);
        Checks.due("72", x.went(0, 72), false);
        Checks.due("nobody", x.went(2, 5), false);
        Checks.due("nobody", x.went(-1, 5), false);
        Checks.due("5", x.went(0, 5), true);
        Checks.due("5 again", x.went(0, 5), false);
        Checks.due("earlier", x.went(0, 4), false);
        Checks.due("another's", x.went(1, 0), true);
        for (int i = 6; i < 17; i++) {
            Checks.due("at " + i, x.went(0, i), true);
        }
        Checks.due("12 are told", x.went(0, 71), false);
        Checks.due("71", x.went(1, 71), true);
        Checks.due("none is later", x.went(1, 71), false);
    }

    private static void marks() {
        PastSleep x = Checks.of(TWO);
        Checks.due("nothing is on it", x.mark(0, true), false);
        Checks.due("none such", x.mark(4, false), false);
        Checks.due("none such", x.mark(-1, false), false);
        Checks.due("none such", x.mark(4, true), false);
        Checks.due("laid", x.mark(3, false), true);
        Checks.due("another one", x.mark(2, true), false);
        x.ticks(2);
        x.go(0, 0, 2);
        Checks.due("gone back", x.mark(3, true), true);
        Checks.due("TICK", x.count(3), 0);
        Checks.due("nothing to undo", x.undo(), false);
        Checks.due("and again", x.mark(3, true), true);
        x.ticks(1);
        Checks.due("laid anew", x.mark(3, false), true);
        x.ticks(1);
        x.mark(3, true);
        Checks.due("TICK 1", x.count(3), 1);
        PastSleep y = new PastSleep();
        Checks.due("of a new object", y.mark(0, false), true);
        Checks.due("cabin", Checks.cabin(y, TWO), 0);
        Checks.due("MARKS stay", y.mark(0, true), true);
        Checks.due("row 2 flight 1", y.count(1), 1);
        Checks.due("nobody", y.count(2), 0);
    }

    private static void marksHoldAll() {
        PastSleep x = Checks.of(TWO + "cup 1;gap 7;feign 3;wake 9-asked;spill 2+tick+side;queue tick+1;belt 4 to 5;");
        x.ticks(1);
        x.go(0, 0, 0);
        x.go(0, 3, 0);
        x.touch(0, true);
        x.went(0, 2);
        x.mark(1, false);
        Checks.due("what can be undone stays", x.count(10), 2);
        Checks.feed(x, "row");
        Checks.due("another", x.cabin(), 1 + 16 * 3);
        Checks.due("another", Checks.cabin(x, "row 5 flight 72;" + B + A.replace("at 0", "at 4") + "wake 1;spill 1;queue 1;gap 5;"), 0);
        x.touch(0, false);
        x.went(0, 7);
        Checks.feed(x, "row 3 ");
        Checks.due("back", x.mark(1, true), true);
        int[] due = {2, 10, 2, 1, 1, 1, 1, 0, 0, 7, 0, 6};
        for (int what = 0; what < due.length; what++) {
            Checks.due("count " + what, x.count(what), due[what]);
        }
        Checks.due("a is OUT", x.sitter(0, 4), 3);
        Checks.due("b was asked", x.sitter(1, 7), 1);
        Checks.due("b was spilt on", x.sitter(1, 8), 1);
        Checks.due("b is awake", x.sitter(1, 3), 0);
        Checks.due("wake", x.odds(1, 0), 8);
        Checks.due("spill", x.odds(1, 2), 4);
        Checks.due("SHUT", x.shut(4), 1);
        Checks.due("touch", x.truly(0, 1), 8);
        Checks.due("went", x.fits(0, 0), 45);
        x.ticks(3);
        Checks.due("a stands", x.sitter(0, 4), -1);
        Checks.due("b sleeps not yet", x.sitter(1, 3), 0);
        x.ticks(1);
        Checks.due("b sleeps", x.sitter(1, 3), 1);
        x.mark(1, true);
        Checks.due("the MARK itself did not change", x.count(3), 1);
        x = Checks.of("row 2 flight 4;" + A + B + "cup 1;wake cup*10;");
        x.mark(0, false);
        Checks.due("another", Checks.cabin(x, TWO), 0);
        x.mark(0, true);
        Checks.due("told cups, too: b wakes", x.flights(3, 1, 1), 0);
    }

    private static void counts() {
        PastSleep x = Checks.of("row 4 flight 10;" + A + B + "cup 3;cup 1;gap 12;");
        x.go(0, 0, 0);
        x.go(0, 0, 2);
        x.ticks(2);
        x.ticks(8);
        Checks.feed(x, "row 9");
        int[] due = {4, 10, 2, 10, 1, 1, 0, x.sitter(0, 9) + x.sitter(1, 9), 2, 12, 0, 5};
        for (int what = 0; what < due.length; what++) {
            Checks.due("count " + what, x.count(what), due[what]);
        }
        Checks.due("TOO LATE: a stands from 1 on, 12 behind TICK 3; b 10 behind 9", x.count(7), 7 + 1);
        Checks.due("what 12", x.count(12), -1);
        Checks.due("what -1", x.count(-1), -1);
    }
}
