/** The edges of promises 4 to 6, 12 and 13: sitters, SEATS, the AISLE, SLEEP, odds. */
public final class SeatEdges {
    private static final int[] FAR = {Integer.MIN_VALUE, -2, -1, 6, 7, 31, 32, 72, 1 << 30, Integer.MAX_VALUE};

    public static void main(String[] args) {
        sitterOthers();
        fiveSitters();
        depths();
        legs();
        inHisTime();
        wokenAhead();
        spiltAhead();
        inHisSeat();
        ticksOut();
        howOften();
        seatOthers();
        seatOfNobody();
        inIt();
        shutOthers();
        shutEnds();
        shutIsAsTold();
        sleepOthers();
        sleeps();
        sleepsOn();
        oddsOthers();
        surely();
        bounded();
        asIfAsleep();
        factsNow();
        Checks.end();
    }

    private static String plain(String name, int seat, int from, int to) {
        return Checks.sitter(name, "plain", seat, 1, 99, 99, 5, 30, from, to);
    }

    private static String cabin(int seats, int flight, String lines) {
        return "row " + seats + " flight " + flight + ";" + lines;
    }

    private static void sitterOthers() {
        Checks.edge(4, "NONE: others");
        PastSleep x = Checks.of(cabin(3, 9, plain("a", 0, 0, 0) + plain("b", 2, 0, 9)));
        for (int what = 0; what <= 9; what++) {
            Checks.due("the third of two, what " + what, x.sitter(2, what), -1);
            Checks.due("of nobody at all", new PastSleep().sitter(0, what), -1);
            for (int far : FAR) {
                Checks.due("sitter " + far + " " + what, x.sitter(far, what), -1);
            }
        }
        for (int far : new int[] {Integer.MIN_VALUE, -2, -1, 10, 11, Integer.MAX_VALUE}) {
            Checks.due("what " + far, x.sitter(1, far), -1);
        }
        Checks.due("what 0", x.sitter(1, 0), 0);
        Checks.due("what 9", x.sitter(1, 9), 0);
    }

    private static void fiveSitters() {
        Checks.edge(4, "Of a sitter, KIND, SEAT: the full row");
        String[] kinds = {"feigner", "tall", "light", "drinker", "plain"};
        StringBuilder all = new StringBuilder();
        for (int i = 0; i < 5; i++) {
            all.append(Checks.sitter("n" + (char) ('a' + i), kinds[i], 4 - i, 1, 9, 5, 5, 30, 0, 0));
        }
        PastSleep x = Checks.of(cabin(5, 9, all.toString()));
        for (int i = 0; i < 5; i++) {
            Checks.due("KIND of " + i, x.sitter(i, 0), 4 - i);
            Checks.due("SEAT of " + i, x.sitter(i, 1), 4 - i);
            Checks.due("sitter of SEAT " + i, x.seat(i, 0), 4 - i);
        }
        Checks.due("no sixth one", x.sitter(5, 0), -1);
    }

    private static void depths() {
        Checks.edge(4, "DEPTH of a light one is half, cut, of a feigner 0");
        for (int depth = 0; depth <= 9; depth++) {
            int[] due = {depth, depth, depth / 2, depth, 0};
            String[] kinds = {"plain", "drinker", "light", "tall", "feigner"};
            for (int kind = 0; kind < 5; kind++) {
                PastSleep x = Checks.of(cabin(2, 9, Checks.sitter("a", kinds[kind], 0, 1, 9, 5, depth, 30, 0, 0) + "wake depth;spill depth;"));
                Checks.due("DEPTH of a " + kinds[kind] + " one with " + depth, x.sitter(0, 5), due[kind]);
                Checks.due("WAKING", x.odds(0, 0), kind == 4 ? 10 : due[kind]);
                Checks.due("SPILLING", x.odds(0, 1), due[kind]);
            }
        }
    }

    private static void legs() {
        Checks.edge(4, "LEGS of a tall one 4 more");
        for (int legs : new int[] {20, 40}) {
            for (String kind : new String[] {"plain", "drinker", "light", "feigner", "tall"}) {
                PastSleep x = Checks.of(cabin(2, 9, Checks.sitter("a", kind, 0, 1, 9, 5, 5, legs, 0, 0) + "spill legs-" + (legs - 3) + ";"));
                int more = kind.equals("tall") ? 4 : 0;
                Checks.due("LEGS", x.sitter(0, 6), legs + more);
                Checks.due("SPILLING", x.odds(0, 2), 3 + more);
            }
        }
    }

    private static void inHisTime() {
        Checks.edge(4, "asleep from the first one till ahead of the second");
        PastSleep x = Checks.of(cabin(5, 6, plain("a", 0, 2, 4) + plain("b", 1, 3, 3) + plain("c", 2, 0, 0) + plain("d", 3, 0, 72) + plain("e", 4, 72, 72)));
        int[] a = {0, 0, 1, 1, 0, 0, 0};
        for (int tick = 0; tick <= 6; tick++) {
            Checks.due("2 to 4 at " + tick, x.sitter(0, 3), a[tick]);
            Checks.due("3 to 3 at " + tick, x.sitter(1, 3), 0);
            Checks.due("0 to 0 at " + tick, x.sitter(2, 3), 0);
            Checks.due("0 to 72 at " + tick, x.sitter(3, 3), 1);
            Checks.due("72 to 72 at " + tick, x.sitter(4, 3), 0);
            x.ticks(1);
        }
        x = Checks.of(cabin(2, 72, plain("a", 0, 0, 72) + plain("b", 1, 71, 72)));
        x.ticks(70);
        Checks.due("71 to 72 at 70", x.sitter(1, 3), 0);
        x.ticks(1);
        Checks.due("71 to 72 at 71", x.sitter(1, 3), 1);
        Checks.due("0 to 72 at 71", x.sitter(0, 3), 1);
        x.ticks(1);
        Checks.due("71 to 72 at 72", x.sitter(1, 3), 0);
        Checks.due("0 to 72 at 72", x.sitter(0, 3), 0);
    }

    private static void wokenAhead() {
        Checks.edge(4, "ASLEEP: was not woken in this TICK or the three ahead");
        for (int at = 0; at <= 3; at++) {
            PastSleep x = Checks.of(cabin(2, 30, plain("a", 0, 0, 0) + plain("b", 1, 0, 30)));
            x.ticks(at + 1);
            Checks.due("ASLEEP", x.sitter(1, 3), 1);
            Checks.due("asked", x.go(0, 0, 2), 1);
            int[] due = {0, 0, 0, 0, 1, 1};
            for (int i = 0; i < due.length; i++) {
                Checks.due("woken " + i + " TICKS ahead", x.sitter(1, 3), due[i]);
                x.ticks(1);
            }
        }
        PastSleep y = Checks.of(cabin(2, 30, plain("a", 0, 0, 0) + plain("b", 1, 0, 30)));
        y.go(0, 0, 0);
        Checks.due("asked in vain he sleeps on", y.sitter(1, 3), 1);
    }

    private static void spiltAhead() {
        Checks.edge(7, "SPILT on: he wakes");
        PastSleep x = Checks.of(cabin(2, 30, plain("a", 0, 0, 0) + plain("b", 1, 0, 30)));
        x.go(0, 3, 0);
        for (int i = 0; i <= 4; i++) {
            Checks.due("SPILT on " + i + " TICKS ahead", x.sitter(1, 3), i == 4 ? 1 : 0);
            x.ticks(1);
        }
        PastSleep y = Checks.of(cabin(2, 30, plain("a", 0, 0, 0) + plain("b", 1, 0, 30)));
        y.go(0, 3, 2);
        Checks.due("climbed past with luck he sleeps on", y.sitter(1, 3), 1);
    }

    private static void inHisSeat() {
        Checks.edge(4, "ASLEEP is who is in his SEAT, in his time");
        PastSleep x = Checks.of(cabin(2, 30, plain("a", 0, 1, 30)));
        Checks.due("awake at 0", x.go(0, 0, 0), 1);
        Checks.due("OUT", x.sitter(0, 3), 0);
        x.ticks(1);
        Checks.due("STANDS in his time", x.sitter(0, 3), 0);
        Checks.due("SLEEP of who STANDS", x.sleep(0), 0);
        x.back(0, 0, 0);
        Checks.due("in his SEAT", x.sitter(0, 3), 1);
        Checks.due("SLEEP", x.sleep(0), 29);
    }

    private static void ticksOut() {
        Checks.edge(4, "TICKS OUT (NONE: STANDS, 0: in his SEAT)");
        for (int queue : new int[] {0, 1, 9}) {
            PastSleep x = Checks.of(cabin(2, 30, plain("a", 0, 0, 0) + "queue " + queue + ";"));
            Checks.due("in his SEAT", x.sitter(0, 4), 0);
            x.go(0, 0, 0);
            for (int left = queue + 1; left > 0; left--) {
                Checks.due("OUT", x.sitter(0, 4), left);
                x.ticks(1);
            }
            Checks.due("STANDS", x.sitter(0, 4), -1);
            x.ticks(5);
            Checks.due("STANDS on", x.sitter(0, 4), -1);
            x.back(0, 0, 0);
            Checks.due("in his SEAT", x.sitter(0, 4), 0);
        }
    }

    private static void howOften() {
        Checks.edge(4, "how often asked, how often SPILT on, TICKS TOO LATE");
        PastSleep x = Checks.of(cabin(2, 30, Checks.sitter("a", "plain", 0, 0, 9, 9, 5, 30, 0, 0) + Checks.sitter("b", "plain", 1, 5, 9, 9, 5, 30, 0, 30)));
        for (int i = 1; i <= 3; i++) {
            x.go(0, 0, 0);
            Checks.due("asked in vain", x.sitter(1, 7), i);
        }
        x.go(0, 0, 2);
        Checks.due("asked with luck", x.sitter(1, 7), 4);
        Checks.due("not SPILT on", x.sitter(1, 8), 0);
        x.ticks(4);
        x.back(0, 6, 0);
        Checks.due("climbed past: not asked", x.sitter(1, 7), 4);
        Checks.due("SPILT on", x.sitter(1, 8), 1);
        Checks.due("15 and 20 are above 9", x.sitter(1, 9), 3);
        Checks.due("the other was not", x.sitter(0, 7) + x.sitter(0, 8) + x.sitter(0, 9), 0);
        x.go(0, 0, 0);
        Checks.due("awake: not asked", x.sitter(1, 7), 4);
    }

    private static void seatOthers() {
        Checks.edge(5, "NONE: others");
        for (int seats = 2; seats <= 5; seats++) {
            PastSleep x = Checks.of(cabin(seats, 9, plain("a", seats - 1, 0, 9) + "cup " + (seats - 1) + ";"));
            Checks.due("the last SEAT", x.seat(seats - 1, 0), 0);
            Checks.due("its cup", x.seat(seats - 1, 1), 1);
            Checks.due("he is in it", x.seat(seats - 1, 2), 1);
            for (int what = 0; what <= 2; what++) {
                Checks.due("behind the last", x.seat(seats, what), -1);
                for (int far : FAR) {
                    Checks.due("SEAT " + far, x.seat(far, what), -1);
                }
            }
            for (int far : new int[] {Integer.MIN_VALUE, -1, 3, 4, Integer.MAX_VALUE}) {
                Checks.due("what " + far, x.seat(0, far), -1);
            }
        }
    }

    private static void seatOfNobody() {
        Checks.edge(5, "its sitter (NONE: none), 1 a cup stands, 0 none, 1 if somebody is in it");
        PastSleep x = Checks.of(cabin(3, 9, plain("a", 1, 0, 9) + "cup 0;"));
        int[][] due = {{-1, 1, 0}, {0, 0, 1}, {-1, 0, 0}};
        for (int seat = 0; seat < 3; seat++) {
            for (int what = 0; what < 3; what++) {
                Checks.due("SEAT " + seat + " " + what, x.seat(seat, what), due[seat][what]);
            }
        }
    }

    private static void inIt() {
        Checks.edge(5, "1 if somebody is in it");
        PastSleep x = Checks.of(cabin(2, 9, plain("a", 0, 0, 0) + plain("b", 1, 0, 9) + "cup 1;cup 0;"));
        x.go(0, 6, 0);
        Checks.due("OUT: not in it", x.seat(0, 2), 0);
        Checks.due("yet his", x.seat(0, 0), 0);
        Checks.due("his cup stands", x.seat(0, 1), 1);
        Checks.due("the sleeper's is gone", x.seat(1, 1), 0);
        Checks.due("he is in it, awake", x.seat(1, 2), 1);
        x.ticks(1);
        Checks.due("STANDS: not in it", x.seat(0, 2), 0);
        x.back(0, 0, 0);
        Checks.due("in it again", x.seat(0, 2), 1);
        Checks.due("no new cup", x.seat(1, 1), 0);
    }

    private static void shutOthers() {
        Checks.edge(6, "NONE: others (0 to the flight's last)");
        for (int flight : new int[] {1, 2, 71, 72}) {
            PastSleep x = Checks.of(cabin(2, flight, "belt 0 to 71;"));
            Checks.due("TICK 0", x.shut(0), 1);
            Checks.due("the last one", x.shut(flight - 1), 1);
            Checks.due("behind it", x.shut(flight), -1);
            for (int far : new int[] {Integer.MIN_VALUE, -1, 72, 73, Integer.MAX_VALUE}) {
                Checks.due("TICK " + far, x.shut(far), -1);
            }
            Checks.due("open", Checks.of(cabin(2, flight, "")).shut(flight - 1), 0);
        }
    }

    private static void shutEnds() {
        Checks.edge(6, "The AISLE is SHUT in TICKS of belt, trolley: both too");
        PastSleep x = Checks.of(cabin(2, 12, "belt 2 to 3;trolley 3 to 4;belt 7 to 7;trolley 9 to 30;"));
        int[] due = {0, 0, 1, 1, 1, 0, 0, 1, 0, 1, 1, 1, -1};
        for (int tick = 0; tick < due.length; tick++) {
            Checks.due("TICK " + tick, x.shut(tick), due[tick]);
        }
    }

    private static void shutIsAsTold() {
        Checks.edge(6, "Whether the AISLE is SHUT in a TICK, whichever it is now");
        PastSleep x = Checks.of(cabin(2, 4, "belt 1 to 2;"));
        x.ticks(4);
        int[] due = {0, 1, 1, 0, -1};
        for (int tick = 0; tick < due.length; tick++) {
            Checks.due("TICK " + tick, x.shut(tick), due[tick]);
        }
    }

    private static void sleepOthers() {
        Checks.edge(12, "NONE: others");
        PastSleep x = Checks.of(cabin(2, 9, plain("a", 0, 0, 9)));
        Checks.due("the second of one", x.sleep(1), -1);
        for (int far : FAR) {
            Checks.due("sitter " + far, x.sleep(far), -1);
        }
        Checks.due("nobody", new PastSleep().sleep(0), -1);
    }

    private static void sleeps() {
        Checks.edge(12, "SLEEP: TICKS till he is not ASLEEP any more by himself (0: not ASLEEP)");
        PastSleep x = Checks.of(cabin(2, 9, plain("a", 0, 2, 4)));
        int[] due = {0, 0, 2, 1, 0, 0};
        for (int tick = 0; tick < due.length; tick++) {
            Checks.due("at TICK " + tick, x.sleep(0), due[tick]);
            x.ticks(1);
        }
        Checks.due("the longest", Checks.of(cabin(2, 72, plain("a", 0, 0, 72))).sleep(0), 72);
        Checks.due("never", Checks.of(cabin(2, 72, plain("a", 0, 0, 0))).sleep(0), 0);
        x = Checks.of(cabin(2, 30, plain("a", 0, 0, 0) + plain("b", 1, 0, 6)));
        x.go(0, 0, 2);
        int[] woken = {0, 0, 0, 0, 2, 1, 0};
        for (int tick = 0; tick < woken.length; tick++) {
            Checks.due("woken at 0, at TICK " + tick, x.sleep(1), woken[tick]);
            x.ticks(1);
        }
    }

    private static void sleepsOn() {
        Checks.edge(12, "by himself: by his time, though the flight is over by then");
        PastSleep x = Checks.of(cabin(2, 3, plain("a", 0, 0, 9)));
        Checks.due("9 in a flight of 3", x.sleep(0), 9);
        x.ticks(2);
        Checks.due("in the last TICK", x.sleep(0), 7);
        x.ticks(1);
        Checks.due("the flight is over", x.sleep(0), 6);
    }

    private static void oddsOthers() {
        Checks.edge(13, "NONE: others");
        PastSleep x = Checks.of(cabin(2, 9, plain("a", 0, 0, 9)));
        for (int way = 0; way <= 2; way++) {
            Checks.due("the second of one", x.odds(1, way), -1);
            Checks.due("nobody", new PastSleep().odds(0, way), -1);
            for (int far : FAR) {
                Checks.due("sitter " + far, x.odds(far, way), -1);
            }
        }
        for (int far : new int[] {Integer.MIN_VALUE, -1, 3, Integer.MAX_VALUE}) {
            Checks.due("way " + far, x.odds(0, far), -1);
        }
        Checks.due("way 0", x.odds(0, 0), 5);
        Checks.due("way 2", x.odds(0, 2), 4);
    }

    private static void surely() {
        Checks.edge(13, "a feigner wakes surely (10)");
        for (String law : new String[] {"", "wake 0;", "wake 5;", "wake 0-9;"}) {
            PastSleep x = Checks.of(cabin(2, 9, Checks.sitter("a", "feigner", 0, 1, 9, 9, 9, 30, 0, 9) + law));
            Checks.due("with " + law, x.odds(0, 0), 10);
            Checks.due("SPILLING is as of all", x.odds(0, 1), 3);
        }
    }

    private static void bounded() {
        Checks.edge(13, "of ten each, 0 below it, 10 above");
        String[] laws = {"0-9999", "0-1", "0", "1", "9", "10", "11", "9999"};
        int[] due = {0, 0, 0, 1, 9, 10, 10, 10};
        for (int i = 0; i < laws.length; i++) {
            PastSleep x = Checks.of(cabin(2, 9, plain("a", 0, 0, 9) + "wake " + laws[i] + ";spill " + laws[i] + "-side*20;"));
            Checks.due("WAKING " + laws[i], x.odds(0, 0), due[i]);
            Checks.due("SPILLING " + laws[i], x.odds(0, 1), due[i]);
            Checks.due("SPILLING " + laws[i] + " less 20", x.odds(0, 2), laws[i].equals("9999") ? 10 : 0);
        }
    }

    private static void asIfAsleep() {
        Checks.edge(13, "of one, as if ASLEEP now");
        PastSleep x = Checks.of(cabin(2, 2, plain("a", 0, 0, 0) + "wake 2+tick;spill 1+side+tick;"));
        Checks.due("awake", x.odds(0, 0), 2);
        x.go(0, 0, 0);
        Checks.due("OUT", x.odds(0, 0), 2);
        Checks.due("OUT", x.odds(0, 2), 2);
        x.ticks(1);
        Checks.due("STANDS", x.odds(0, 0), 3);
        x.ticks(1);
        Checks.due("the flight is over", x.odds(0, 0), 4);
        Checks.due("the flight is over", x.odds(0, 1), 3);
    }

    private static void factsNow() {
        Checks.edge(13, "Facts: tick, cup (1 if one stands before the sleeper), asked (in all), gap, side");
        PastSleep x = Checks.of(cabin(2, 20, plain("a", 0, 0, 0) + plain("b", 1, 0, 20) + "cup 1;gap 20;wake cup*4+asked;spill gap-19+side*3+cup*2;"));
        Checks.due("his cup stands", x.odds(1, 0), 4);
        Checks.due("none before a", x.odds(0, 0), 0);
        Checks.due("20 - 19 + 2", x.odds(1, 1), 3);
        Checks.due("20 - 19 + 3 + 2", x.odds(1, 2), 6);
        x.go(0, 0, 0);
        x.go(0, 0, 0);
        Checks.due("asked twice", x.odds(1, 0), 6);
        Checks.due("not a", x.odds(0, 0), 0);
        x.go(0, 3, 0);
        Checks.due("his cup is gone", x.odds(1, 0), 2);
        Checks.due("20 - 19", x.odds(1, 1), 1);
        x.ticks(9);
        Checks.due("asked in all, not in this TICK", x.odds(1, 0), 2);
        Checks.due("gap is 11 if not told", Checks.of(cabin(2, 9, plain("a", 0, 0, 9) + "spill gap-5;")).odds(0, 1), 6);
    }
}
