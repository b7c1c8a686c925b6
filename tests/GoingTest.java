/** Promises 4 to 10, 12, 13: sitters, SEATS, the AISLE, goings and ways back, undoing, TICKS, sleep, odds. */
public final class GoingTest {
    private static final String ROW = "row 3 flight 12;";
    private static final String ANN = "sitter ann plain at 0 needs 5 limit 20 goes 15 depth 3 legs 30 sleeps 0 to 0;";
    private static final String BOB = "sitter bob tall at 1 needs 2 limit 30 goes 20 depth 4 legs 34 sleeps 0 to 9;";
    private static final String CAT = "sitter cat light at 2 needs 3 limit 30 goes 9 depth 7 legs 30 sleeps 1 to 5;";
    private static final String CABIN = ROW + ANN + BOB + CAT + "cup 1;cup 0;belt 6 to 7;trolley 9 to 9;price 2 5 9 1;";

    public static void main(String[] args) {
        sitters();
        seats();
        shut();
        goings();
        inVain();
        spilling();
        waysBack();
        cantGo();
        fallsAsleepAgain();
        undone();
        undoneTwelve();
        queues();
        ticks();
        kinds();
        sleeps();
        odds();
        Checks.end();
    }

    private static void sitter(PastSleep x, int who, int... due) {
        for (int what = 0; what < due.length; what++) {
            Checks.due("sitter " + who + " " + what, x.sitter(who, what), due[what]);
        }
    }

    private static void sitters() {
        PastSleep x = Checks.of(CABIN);
        sitter(x, 0, 0, 0, 0, 0, 0, 3, 30, 0, 0, 0, -1);
        sitter(x, 1, 3, 1, 0, 1, 0, 4, 38, 0, 0, 0, -1);
        sitter(x, 2, 2, 2, 0, 0, 0, 3, 30, 0, 0, 0, -1);
        sitter(x, 3, -1, -1, -1, -1, -1, -1, -1, -1, -1, -1, -1);
        sitter(x, -1, -1, -1);
        Checks.due("what -1", x.sitter(0, -1), -1);
    }

    private static void seats() {
        PastSleep x = Checks.of("row 4 flight 3;" + BOB + "cup 3;");
        int[][] due = {{-1, 0, 0, -1}, {0, 0, 1, -1}, {-1, 0, 0, -1}, {-1, 1, 0, -1}, {-1, -1, -1, -1}};
        for (int seat = 0; seat < 5; seat++) {
            for (int what = 0; what < 4; what++) {
                Checks.due("seat " + seat + " " + what, x.seat(seat, what), due[seat][what]);
            }
        }
        Checks.due("seat -1", x.seat(-1, 0), -1);
        Checks.due("seat what -1", x.seat(0, -1), -1);
        x = Checks.of(CABIN);
        x.go(0, 0, 7);
        Checks.due("he is told there", x.seat(0, 0), 0);
        Checks.due("not in it", x.seat(0, 2), 0);
        x.ticks(1);
        Checks.due("nor as he stands", x.seat(0, 2), 0);
    }

    private static void shut() {
        PastSleep x = Checks.of(CABIN);
        int[] due = {0, 0, 0, 0, 0, 0, 1, 1, 0, 1, 0, 0, -1};
        for (int tick = 0; tick < due.length; tick++) {
            Checks.due("shut " + tick, x.shut(tick), due[tick]);
        }
        Checks.due("shut -1", x.shut(-1), -1);
    }

    private static void goings() {
        PastSleep x = Checks.of(CABIN);
        x.ticks(1);
        Checks.due("both wake", x.go(0, 0, 6), 1);
        sitter(x, 0, 0, 0, 0, 0, 1);
        sitter(x, 1, 3, 1, 2, 0, 0, 4, 38, 1, 0, 0);
        sitter(x, 2, 2, 2, 3, 0, 0, 3, 30, 1, 0, 0);
        Checks.due("wakings", x.count(4), 2);
        Checks.due("in vain", x.count(5), 0);
        x = Checks.of(CABIN);
        x.ticks(1);
        Checks.due("his own digit and bit are nothing", x.go(0, 2 + 3 + 18, 6), 1);
        Checks.due("climbed past all", x.count(4), 0);
        Checks.due("bob sleeps", x.sitter(1, 3), 1);
        Checks.due("cat sleeps", x.sitter(2, 3), 1);
        Checks.due("nobody asked", x.sitter(1, 7), 0);
        x = Checks.of(CABIN);
        Checks.due("cat is not ASLEEP yet: lets him by", x.go(0, 3, 2), 1);
    }

    private static void inVain() {
        PastSleep x = Checks.of(CABIN);
        x.ticks(1);
        Checks.due("bob wakes, cat does not", x.go(0, 0, 2), 0);
        sitter(x, 0, 0, 0, 5, 0, 0);
        sitter(x, 1, 3, 1, 2, 0, 0, 4, 38, 1);
        sitter(x, 2, 2, 2, 3, 1, 0, 3, 30, 1);
        Checks.due("woken", x.count(4), 1);
        Checks.due("in vain", x.count(5), 1);
        Checks.due("bob does not: cat is not asked", x.go(0, 0, 0), 0);
        Checks.due("bob is awake: cat is asked again", x.sitter(2, 7), 2);
        Checks.due("in vain again", x.count(5), 2);
        Checks.due("spilt on ahead, then in vain", Checks.of(CABIN).go(0, 3, 0), 1);
        PastSleep y = Checks.of(CABIN);
        y.ticks(1);
        Checks.due("spilt on bob, in vain with cat", y.go(0, 3, 0), 0);
        Checks.due("spilt", y.count(6), 1);
        Checks.due("bob's", y.sitter(1, 8), 1);
        Checks.due("his cup", y.seat(1, 1), 0);
        PastSleep z = Checks.of(CABIN);
        z.ticks(1);
        Checks.due("bob first: he does not wake", z.go(0, 0, 4), 0);
        Checks.due("cat not asked", z.sitter(2, 7), 0);
    }

    private static void spilling() {
        PastSleep x = Checks.of(CABIN);
        x.ticks(1);
        Checks.due("climbs over both, spilling", x.go(0, 6 + 9, 0), 1);
        Checks.due("spilt", x.count(6), 2);
        Checks.due("cups", x.count(8), 1);
        Checks.due("ann's own stays", x.seat(0, 1), 1);
        sitter(x, 1, 3, 1, 2, 0, 0, 4, 38, 0, 1);
        sitter(x, 2, 2, 2, 3, 0, 0, 3, 30, 0, 1);
        Checks.due("nothing in vain", x.count(5), 0);
    }

    private static void waysBack() {
        PastSleep x = Checks.of(CABIN);
        Checks.due("in his SEAT", x.back(0, 0, 7), -1);
        x.go(0, 3, 2);
        Checks.due("OUT", x.back(0, 0, 7), -1);
        x.ticks(1);
        sitter(x, 0, 0, 0, 0, 0, -1);
        Checks.due("he who STANDS can't go", x.go(0, 0, 7), -1);
        Checks.due("cat first, from the aisle on", x.back(0, 0, 2), 0);
        Checks.due("cat asked", x.sitter(2, 7), 1);
        Checks.due("bob not", x.sitter(1, 7), 0);
        Checks.due("cat wakes, bob not", x.back(0, 0, 4), 0);
        Checks.due("cat's waking", x.count(4), 1);
        Checks.due("still stands", x.sitter(0, 4), -1);
        x.ticks(1);
        Checks.due("needs of who STANDS grow", x.sitter(0, 2), 5);
        Checks.due("bob wakes", x.back(0, 0, 2), 1);
        sitter(x, 0, 0, 0, 5, 0, 0);
        Checks.due("not twice", x.back(0, 0, 2), -1);
        x = Checks.of(CABIN);
        x.ticks(5);
        Checks.due("goes ahead of the belt", x.go(0, 3, 2), 1);
        x.ticks(1);
        Checks.due("SHUT", x.back(0, 3, 2), -1);
        x.ticks(2);
        Checks.due("no more", x.back(0, 3, 2), 1);
    }

    private static void cantGo() {
        PastSleep x = Checks.of(CABIN);
        Checks.due("ASLEEP", x.go(1, 0, 7), -1);
        Checks.due("no such", x.go(3, 0, 7), -1);
        Checks.due("no such", x.go(-1, 0, 7), -1);
        Checks.due("ways 27", x.go(0, 27, 7), -1);
        Checks.due("ways -1", x.go(0, -1, 7), -1);
        Checks.due("luck 8", x.go(0, 0, 8), -1);
        Checks.due("luck -1", x.go(0, 0, -1), -1);
        Checks.due("nothing to undo", x.count(10), 0);
        Checks.due("ways 26, luck 7", x.go(0, 26, 7), 1);
        Checks.due("OUT", x.go(0, 0, 7), -1);
        x.ticks(6);
        Checks.due("SHUT", x.go(2, 0, 7), -1);
        Checks.due("back ways 27", x.back(0, 27, 7), -1);
        Checks.due("back luck 8", x.back(0, 0, 8), -1);
        Checks.due("back, SHUT", x.back(0, 0, 7), -1);
        x.ticks(6);
        Checks.due("the flight is over", x.back(0, 0, 7), -1);
        Checks.due("the flight is over", x.go(2, 0, 7), -1);
        Checks.due("nobody's", new PastSleep().go(0, 0, 0), -1);
    }

    private static void fallsAsleepAgain() {
        PastSleep x = Checks.of(CABIN);
        x.go(0, 0, 2);
        int[] due = {0, 0, 0, 0, 1};
        for (int tick = 0; tick < due.length; tick++) {
            Checks.due("bob ASLEEP at " + tick, x.sitter(1, 3), due[tick]);
            Checks.due("his SLEEP at " + tick, x.sleep(1), due[tick] * (9 - tick));
            x.ticks(1);
        }
        x.ticks(3);
        Checks.due("last TICK", x.sitter(1, 3), 1);
        x.ticks(1);
        Checks.due("his time is over", x.sitter(1, 3), 0);
    }

    private static void undone() {
        PastSleep x = Checks.of(CABIN);
        Checks.due("nothing", x.undo(), false);
        x.go(0, 0, 0);
        x.go(0, 3, 0);
        x.go(2, 0, 0);
        Checks.due("three", x.count(10), 3);
        Checks.due("cat is in again", x.undo(), true);
        sitter(x, 2, 2, 2, 0, 0, 0);
        Checks.due("ann is in again", x.undo(), true);
        sitter(x, 1, 3, 1, 0, 1, 0, 4, 38, 1, 0);
        Checks.due("cup stands again", x.count(8), 2);
        Checks.due("spilt on nobody", x.count(6), 0);
        Checks.due("in vain yet", x.count(5), 1);
        Checks.due("the one in vain, too", x.undo(), true);
        Checks.due("none in vain", x.count(5), 0);
        Checks.due("nor asked", x.sitter(1, 7), 0);
        Checks.due("no more", x.undo(), false);
        x.go(0, 0, 2);
        x.ticks(100);
        Checks.due("no TICK passed", x.count(10), 1);
        x.touch(0, true);
        x.ticks(1);
        Checks.due("another TICK", x.undo(), false);
        x.back(0, 3, 7);
        Checks.due("BACK is undone", x.undo(), true);
        Checks.due("stands", x.sitter(0, 4), -1);
        Checks.due("touches are not", x.truly(0, 1), 16);
    }

    private static void undoneTwelve() {
        PastSleep x = Checks.of(CABIN);
        for (int i = 0; i < 15; i++) {
            Checks.due("in vain", x.go(0, 0, 0), 0);
        }
        Checks.due("twelve", x.count(10), 12);
        for (int i = 0; i < 12; i++) {
            Checks.due("undo " + i, x.undo(), true);
            Checks.due("left", x.count(5), 14 - i);
        }
        Checks.due("the first three stay", x.undo(), false);
        Checks.due("in vain", x.count(5), 3);
    }

    private static void queues() {
        PastSleep x = Checks.of(ROW + ANN + BOB + CAT + "queue out*2+tick;");
        Checks.due("first", x.go(0, 0, 2), 1);
        Checks.due("none out", x.sitter(0, 4), 1);
        Checks.due("second", x.go(2, 0, 0), 1);
        Checks.due("one out", x.sitter(2, 4), 3);
        x.ticks(1);
        Checks.due("third", x.go(1, 0, 0), 1);
        Checks.due("one out, one stands, TICK 1", x.sitter(1, 4), 6);
        x.ticks(1);
        sitter(x, 0, 0, 0, 5, 0, -1);
        sitter(x, 2, 2, 2, 0, 0, 1);
        sitter(x, 1, 3, 1, 0, 0, 5);
        x = Checks.of(ROW + ANN + "queue 99;");
        x.go(0, 0, 0);
        Checks.due("9 at most", x.sitter(0, 4), 10);
        x = Checks.of(ROW + ANN + "queue 0-5;");
        x.go(0, 0, 0);
        Checks.due("0 at least", x.sitter(0, 4), 1);
    }

    private static void ticks() {
        PastSleep x = Checks.of("row 2 flight 40;sitter a drinker at 0 needs 9 limit 99 goes 1 depth 0 legs 20 sleeps 0 to 0;");
        Checks.due("0", x.ticks(0), -1);
        Checks.due("73", x.ticks(73), -1);
        Checks.due("5", x.ticks(5), 5);
        Checks.due("twice his needs", x.sitter(0, 2), 90);
        Checks.due("not yet", x.count(7), 0);
        x.ticks(6);
        Checks.due("199 at most: 198", x.sitter(0, 2), 198);
        x.ticks(1);
        Checks.due("199 at most", x.sitter(0, 2), 199);
        Checks.due("TOO LATE each TICK", x.sitter(0, 9), 7);
        Checks.due("in all", x.count(7), 7);
        Checks.due("none passes behind the last", x.ticks(72), 40);
        Checks.due("TOO LATE", x.count(7), 35);
        Checks.due("none passes", x.ticks(1), 40);
        Checks.due("TOO LATE", x.count(7), 35);
        x = Checks.of("row 2 flight 9;sitter a plain at 0 needs 5 limit 10 goes 1 depth 0 legs 20 sleeps 0 to 0;");
        x.ticks(2);
        Checks.due("at the limit", x.count(7), 0);
        x.ticks(1);
        Checks.due("above it", x.count(7), 1);
        Checks.due("new", new PastSleep().ticks(5), 1);
    }

    private static void kinds() {
        String one = "row 2 flight 9;sitter a KIND at 1 needs 4 limit 90 goes 1 depth 5 legs 33 sleeps 0 to 9;";
        String[] kinds = {"plain", "drinker", "light", "tall", "feigner"};
        int[][] due = {{4, 5, 33, 5}, {8, 5, 33, 5}, {4, 2, 33, 8}, {4, 5, 37, 5}, {4, 0, 33, 10}};
        for (int kind = 0; kind < kinds.length; kind++) {
            PastSleep x = Checks.of(one.replace("KIND", kinds[kind]));
            x.ticks(1);
            Checks.due(kinds[kind] + "'s need", x.sitter(0, 2), due[kind][0]);
            Checks.due(kinds[kind] + "'s DEPTH", x.sitter(0, 5), due[kind][1]);
            Checks.due(kinds[kind] + "'s LEGS", x.sitter(0, 6), due[kind][2]);
            Checks.due(kinds[kind] + "'s WAKING", x.odds(0, 0), due[kind][3]);
            Checks.due(kinds[kind] + " ASLEEP", x.sitter(0, 3), 1);
        }
    }

    private static void sleeps() {
        PastSleep x = Checks.of(CABIN);
        Checks.due("ann", x.sleep(0), 0);
        Checks.due("bob", x.sleep(1), 9);
        Checks.due("cat", x.sleep(2), 0);
        Checks.due("nobody", x.sleep(3), -1);
        Checks.due("nobody", x.sleep(-1), -1);
        x.ticks(1);
        Checks.due("cat", x.sleep(2), 4);
        x.ticks(4);
        Checks.due("cat wakes by herself", x.sleep(2), 0);
        Checks.due("beyond the flight", Checks.of("row 2 flight 3;" + BOB).sleep(0), 9);
    }

    private static void odds() {
        PastSleep x = Checks.of(CABIN);
        Checks.due("WAKING", x.odds(1, 0), 6);
        Checks.due("side 0", x.odds(1, 1), 3);
        Checks.due("side 1", x.odds(1, 2), 4);
        Checks.due("as if ASLEEP", x.odds(0, 0), 7);
        Checks.due("way 3", x.odds(1, 3), -1);
        Checks.due("way -1", x.odds(1, -1), -1);
        Checks.due("nobody", x.odds(3, 0), -1);
        Checks.due("nobody", x.odds(-1, 0), -1);
        x = Checks.of(ROW + ANN + BOB + CAT + "cup 1;gap 9;wake asked*4+cup*2+tick-legs+depth*8;spill legs-gap*3-side*5+cup-asked;");
        Checks.due("bob's", x.odds(1, 0), 0);
        Checks.due("cat's: 24-30 is below 0", x.odds(2, 0), 0);
        Checks.due("bob's side 0 above 10: 38-27+1", x.odds(1, 1), 10);
        Checks.due("bob's side 1", x.odds(1, 2), 7);
        Checks.due("cat's side 0", x.odds(2, 1), 3);
        x.go(0, 0, 0);
        x.go(0, 0, 0);
        Checks.due("asked twice: 8+2+0-38+32", x.odds(1, 0), 4);
        Checks.due("asked twice: 12-5-2", x.odds(1, 2), 5);
        x.ticks(3);
        Checks.due("TICK 3", x.odds(1, 0), 7);
        x.go(0, 3, 0);
        Checks.due("no cup: 2 less", x.odds(1, 0), 5);
        Checks.due("no cup: 1 less", x.odds(1, 2), 4);
        Checks.due("wrapping", Checks.of(ROW + ANN + "wake 9999*9999*9999<0;").odds(0, 0), 9999 * 9999 * 9999 < 0 ? 1 : 0);
        Checks.due("from the left", Checks.of(ROW + ANN + "wake 9-2-3;").odds(0, 0), 4);
        Checks.due("products first", Checks.of(ROW + ANN + "wake 1+2*3;").odds(0, 0), 7);
        Checks.due("and, or from the left", Checks.of(ROW + ANN + "wake 1 or 1 and 0;").odds(0, 0), 0);
        Checks.due("not of a PART", Checks.of(ROW + ANN + "wake not 5+3;").odds(0, 0), 3);
        Checks.due("not 0", Checks.of(ROW + ANN + "wake not 0*7;").odds(0, 0), 7);
        Checks.due("equal", Checks.of(ROW + ANN + "wake (depth=3)*8;").odds(0, 0), 8);
        Checks.due("less", Checks.of(ROW + ANN + "wake (depth<3)*8;").odds(0, 0), 0);
        Checks.due("what is not 0 is so", Checks.of(ROW + ANN + "wake 7 and 0-2;").odds(0, 0), 1);
        Checks.due("a feigner wakes surely", Checks.of(ROW + BOB.replace("tall", "feigner") + "wake 0;").odds(0, 0), 10);
    }
}
