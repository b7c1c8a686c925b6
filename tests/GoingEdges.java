/** The edges of promises 7 to 10: go, back, undo, ticks. */
public final class GoingEdges {
    private static final String PRICES = "price 2 5 9 1;";
    private static final int[] FAR = {Integer.MIN_VALUE, -1, 3, 5, 31, 32, 72, Integer.MAX_VALUE};

    public static void main(String[] args) {
        goOthers();
        goWays();
        goLuck();
        notInHisSeat();
        asleepHimself();
        goShut();
        goOver();
        nobodyAhead();
        fourAhead();
        oneByOne();
        letsHimBy();
        lowestDigit();
        inVainStays();
        askedWakes();
        spiltOn();
        climbedWithLuck();
        feignerByHand();
        queueBounds();
        queueFacts();
        needIsZero();
        refusedGo();
        backOthers();
        backFromTheAisle();
        backInVain();
        backShut();
        backIsIn();
        refusedBack();
        undoEmpty();
        undoTwelve();
        undoAll();
        undoNotRefused();
        undoSinceTheTick();
        undoNotTold();
        ticksOthers();
        ticksEnd();
        needsGrow();
        needsMost();
        tooLate();
        outLess();
        Checks.end();
    }

    private static String one(String name, int seat, int needs, int limit, int from, int to) {
        return Checks.sitter(name, "plain", seat, needs, limit, 50, 5, 30, from, to);
    }

    /** a by the window, awake; b and c ASLEEP for the whole flight of 20 TICKS, c at the aisle. */
    private static PastSleep three(String more) {
        return Checks.of("row 3 flight 20;" + one("a", 0, 5, 60, 0, 0) + one("b", 1, 2, 60, 0, 20) + one("c", 2, 3, 60, 0, 20) + more);
    }

    private static void refused(String call, int got, PastSleep x, String ahead) {
        Checks.due(call, got, -1);
        Checks.due(call + " changes nothing", Look.at(x), ahead);
    }

    private static void goOthers() {
        Checks.edge(7, "NONE: others, he can't go");
        PastSleep x = three(PRICES);
        String ahead = Look.at(x);
        for (int far : FAR) {
            refused("go " + far, x.go(far, 0, 7), x, ahead);
        }
        Checks.due("nobody", new PastSleep().go(0, 0, 0), -1);
        x = Checks.of("row 3 flight 20;" + one("a", 0, 5, 60, 0, 0));
        Checks.due("the second of one", x.go(1, 0, 0), -1);
        Checks.due("the one", x.go(0, 0, 0), 1);
    }

    private static void goWays() {
        Checks.edge(7, "WAYS: digits to the base of 3 by SEATS");
        int[] powers = {9, 27, 81, 243};
        for (int seats = 2; seats <= 5; seats++) {
            String text = "row " + seats + " flight 9;" + one("a", 0, 5, 60, 0, 0);
            for (int wrong : new int[] {powers[seats - 2], powers[seats - 2] + 1, -1, Integer.MIN_VALUE, Integer.MAX_VALUE, 1 << 30}) {
                PastSleep x = Checks.of(text);
                refused(seats + " SEATS, ways " + wrong, x.go(0, wrong, 0), x, Look.at(x));
            }
            Checks.due("the last ways", Checks.of(text).go(0, powers[seats - 2] - 1, 0), 1);
            Checks.due("the first ways", Checks.of(text).go(0, 0, 0), 1);
        }
    }

    private static void goLuck() {
        Checks.edge(7, "LUCK: bits by SEATS");
        for (int seats = 2; seats <= 5; seats++) {
            String text = "row " + seats + " flight 9;" + one("a", 0, 5, 60, 0, 0);
            int all = 1 << seats;
            for (int wrong : new int[] {all, all + 1, -1, Integer.MIN_VALUE, Integer.MAX_VALUE, 1 << 30}) {
                PastSleep x = Checks.of(text);
                refused(seats + " SEATS, luck " + wrong, x.go(0, 0, wrong), x, Look.at(x));
            }
            Checks.due("the last luck", Checks.of(text).go(0, 0, all - 1), 1);
            Checks.due("the first luck", Checks.of(text).go(0, 0, 0), 1);
        }
    }

    private static void notInHisSeat() {
        Checks.edge(7, "GOING: of one in his SEAT");
        PastSleep x = three("queue 1;");
        Checks.due("in his SEAT", x.go(0, 12, 7), 1);
        refused("OUT for 2", x.go(0, 12, 7), x, Look.at(x));
        x.ticks(1);
        refused("OUT for 1", x.go(0, 12, 7), x, Look.at(x));
        x.ticks(1);
        refused("STANDS", x.go(0, 12, 7), x, Look.at(x));
        x.back(0, 12, 7);
        Checks.due("in his SEAT again", x.go(0, 12, 7), 1);
    }

    private static void asleepHimself() {
        Checks.edge(7, "GOING: not ASLEEP");
        PastSleep x = Checks.of("row 2 flight 9;" + one("a", 0, 5, 60, 1, 3));
        x.ticks(1);
        refused("in the first TICK of his sleep", x.go(0, 0, 0), x, Look.at(x));
        x.ticks(1);
        refused("in the last", x.go(0, 0, 0), x, Look.at(x));
        x.ticks(1);
        Checks.due("behind it", x.go(0, 0, 0), 1);
        Checks.due("ahead of it", Checks.of("row 2 flight 9;" + one("a", 0, 5, 60, 1, 3)).go(0, 0, 0), 1);
        x = three("");
        x.go(0, 0, 2);
        Checks.due("b was woken: she can go", x.go(1, 9, 4), 1);
        Checks.due("c was not", x.go(2, 0, 7), -1);
    }

    private static void goShut() {
        Checks.edge(7, "GOING: the AISLE not SHUT");
        PastSleep x = three("belt 1 to 2;trolley 4 to 4;");
        int[] due = {0, -1, -1, 0, -1, 0};
        for (int tick = 0; tick < due.length; tick++) {
            String ahead = Look.at(x);
            Checks.due("at TICK " + tick, x.go(0, 0, 0), due[tick]);
            if (due[tick] < 0) {
                Checks.due("nothing changes", Look.at(x), ahead);
            }
            x.ticks(1);
        }
    }

    private static void goOver() {
        Checks.edge(7, "the flight is over, the AISLE is SHUT");
        PastSleep x = Checks.of("row 2 flight 2;" + one("a", 0, 5, 60, 0, 0));
        x.ticks(1);
        Checks.due("the last TICK", x.go(0, 0, 0), 1);
        x.undo();
        x.ticks(1);
        refused("behind it", x.go(0, 0, 0), x, Look.at(x));
        x = Checks.of("row 2 flight 72;" + one("a", 0, 5, 60, 0, 0));
        x.ticks(71);
        Checks.due("TICK 71", x.go(0, 0, 0), 1);
        x.undo();
        x.ticks(1);
        refused("TICK 72", x.go(0, 0, 0), x, Look.at(x));
    }

    private static void nobodyAhead() {
        Checks.edge(7, "past those who are in SEATS nearer to the aisle: none");
        PastSleep x = Checks.of("row 3 flight 20;" + one("a", 2, 5, 60, 0, 0) + one("b", 1, 2, 60, 0, 20) + one("c", 0, 3, 60, 0, 20));
        Checks.due("at the aisle", x.go(0, 0, 0), 1);
        Checks.due("none asked", x.sitter(1, 7) + x.sitter(2, 7), 0);
        x.ticks(1);
        Checks.due("and back", x.back(0, 0, 0), 1);
        x = Checks.of("row 5 flight 20;" + one("a", 1, 5, 60, 0, 0) + one("b", 0, 5, 60, 0, 20));
        Checks.due("SEATS without a sitter", x.go(0, 0, 0), 1);
        x = Checks.of("row 2 flight 20;" + one("a", 0, 5, 60, 0, 0) + one("b", 1, 5, 60, 1, 20));
        x.go(1, 0, 0);
        x.ticks(1);
        Checks.due("who is in his time, but STANDS", x.go(0, 0, 0), 1);
        Checks.due("is not asked", x.sitter(1, 7), 0);
    }

    private static void fourAhead() {
        Checks.edge(7, "one by one from his own on: the full row");
        StringBuilder all = new StringBuilder("row 5 flight 20;" + one("a", 0, 5, 60, 0, 0));
        for (int seat = 1; seat < 5; seat++) {
            all.append(one("n" + (char) ('a' + seat), seat, 1, 60, 0, 20)).append("cup ").append(seat).append(";");
        }
        PastSleep x = Checks.of(all.toString());
        Checks.due("all wake", x.go(0, 0, 30), 1);
        Checks.due("four wakings", x.count(4), 4);
        x = Checks.of(all.toString());
        Checks.due("spilt on all", x.go(0, 3 + 18 + 27 + 162, 0), 1);
        Checks.due("four SPILT on", x.count(6), 4);
        Checks.due("no cup stands", x.count(8), 0);
        x = Checks.of(all.toString());
        Checks.due("the last in vain", x.go(0, 3 + 18 + 27, 0), 0);
        Checks.due("three SPILT on", x.count(6), 3);
        Checks.due("one asked", x.sitter(4, 7), 1);
        x = Checks.of(all.toString());
        Checks.due("climbed past all, with luck", x.go(0, 6 + 9 + 54 + 81, 30), 1);
        Checks.due("none woke", x.count(4), 0);
    }

    private static void oneByOne() {
        Checks.edge(7, "one by one from his own on");
        PastSleep x = three("");
        Checks.due("b is asked in vain", x.go(0, 0, 4), 0);
        Checks.due("b was asked", x.sitter(1, 7), 1);
        Checks.due("c was not", x.sitter(2, 7), 0);
        x = three("");
        Checks.due("b asked in vain, c would be climbed past", x.go(0, 9, 0), 0);
        Checks.due("c was not SPILT on", x.sitter(2, 8), 0);
    }

    private static void letsHimBy() {
        Checks.edge(7, "who is not ASLEEP lets him by");
        PastSleep x = Checks.of("row 3 flight 20;" + one("a", 0, 5, 60, 0, 0) + one("b", 1, 2, 60, 1, 20) + one("c", 2, 3, 60, 0, 0) + "cup 1;cup 2;");
        Checks.due("whatever the ways and luck", x.go(0, 3 + 18, 0), 1);
        Checks.due("none asked", x.sitter(1, 7) + x.sitter(2, 7), 0);
        Checks.due("none SPILT on", x.count(6), 0);
        Checks.due("cups stand", x.count(8), 2);
        Checks.due("none woke", x.count(4), 0);
    }

    private static void lowestDigit() {
        Checks.edge(7, "by SEATS, the window's the lowest");
        PastSleep x = three("cup 1;cup 2;");
        Checks.due("SEAT 1 climbed, SEAT 2 asked with luck", x.go(0, 3, 4), 1);
        Checks.due("b SPILT on", x.sitter(1, 8), 1);
        Checks.due("c asked", x.sitter(2, 7), 1);
        x = three("");
        Checks.due("SEAT 1 asked with luck, SEAT 2 climbed", x.go(0, 18, 2), 1);
        Checks.due("b asked", x.sitter(1, 7), 1);
        Checks.due("c SPILT on", x.sitter(2, 8), 1);
        x = three("");
        Checks.due("his own digit and bit say nothing", x.go(0, 1, 1), 0);
        Checks.due("his own digit and bit say nothing", x.go(0, 2, 6), 1);
    }

    private static void inVainStays() {
        Checks.edge(7, "it is in vain: all stays but who was woken, spilt on ahead");
        PastSleep x = three("cup 1;cup 2;");
        Checks.due("b woken, c in vain", x.go(0, 0, 2), 0);
        Checks.due("in his SEAT", x.sitter(0, 4), 0);
        Checks.due("b woke", x.sitter(1, 3), 0);
        Checks.due("c did not", x.sitter(2, 3), 1);
        Checks.due("a waking", x.count(4), 1);
        Checks.due("one in vain", x.count(5), 1);
        Checks.due("cups stand", x.count(8), 2);
        x = three("cup 1;cup 2;");
        x.ticks(2);
        Checks.due("b spilt on, c in vain", x.go(0, 3, 0), 0);
        Checks.due("his need stays", x.sitter(0, 2), 10);
        Checks.due("SPILT on", x.count(6), 1);
        Checks.due("b's cup is gone", x.seat(1, 1), 0);
        Checks.due("c's stands", x.seat(2, 1), 1);
        Checks.due("no TICK passes", x.count(3), 2);
    }

    private static void askedWakes() {
        Checks.edge(7, "asked, with luck he wakes, else it is in vain");
        for (int wake = 0; wake <= 10; wake += 5) {
            PastSleep x = three("wake " + wake + ";");
            Checks.due("without luck, WAKING " + wake, x.go(0, 9, 4), 0);
            Checks.due("in vain", x.count(5), 1);
            Checks.due("sleeps on", x.sitter(1, 3), 1);
            Checks.due("with luck, WAKING " + wake, x.go(0, 9, 6), 1);
            Checks.due("woken", x.count(4), 1);
            Checks.due("awake", x.sitter(1, 3), 0);
            Checks.due("one in vain, as it was", x.count(5), 1);
        }
    }

    private static void spiltOn() {
        Checks.edge(7, "climbed past without luck he is SPILT on: he wakes, his cup, if it stands, is gone; one comes by all the same");
        for (int side = 1; side <= 2; side++) {
            PastSleep x = three("cup 0;cup 1;");
            Checks.due("comes by", x.go(0, 3 * side + 9, 4), 1);
            Checks.due("SPILT on", x.sitter(1, 8), 1);
            Checks.due("awake", x.sitter(1, 3), 0);
            Checks.due("he wakes: a waking", x.count(4), 1);
            Checks.due("cup", x.seat(1, 1), 0);
            Checks.due("a's own stands", x.seat(0, 1), 1);
            Checks.due("not asked", x.sitter(1, 7), 0);
            x = three("cup 0;");
            Checks.due("without a cup", x.go(0, 3 * side + 9, 4), 1);
            Checks.due("SPILT on all the same", x.count(6), 1);
            Checks.due("the others' cups stand", x.count(8), 1);
            x = three("spill 0;cup 1;");
            Checks.due("whatever SPILLING is", x.go(0, 3 * side + 9, 4), 1);
            Checks.due("SPILT on", x.count(6), 1);
        }
    }

    private static void climbedWithLuck() {
        Checks.edge(7, "1 climbed past before his knees, 2 over the armrests: with luck nothing else");
        for (int ways : new int[] {3 + 9, 3 + 18, 6 + 9, 6 + 18}) {
            PastSleep x = three("cup 1;cup 2;");
            Checks.due("comes by", x.go(0, ways, 6), 1);
            Checks.due("b sleeps on", x.sitter(1, 3), 1);
            Checks.due("c sleeps on", x.sitter(2, 3), 1);
            Checks.due("cups stand", x.count(8), 2);
            Checks.due("nobody woken, in vain, SPILT on", x.count(4) + x.count(5) + x.count(6), 0);
            Checks.due("nobody asked", x.sitter(1, 7) + x.sitter(2, 7), 0);
        }
    }

    private static void feignerByHand() {
        Checks.edge(7, "LUCK of a SEAT (1 or 0): asked, with luck he wakes, else it is in vain, of a feigner, too");
        PastSleep x = Checks.of("row 2 flight 9;" + one("a", 0, 5, 60, 0, 0) + Checks.sitter("b", "feigner", 1, 2, 60, 50, 5, 30, 0, 9));
        Checks.due("ASLEEP as all", x.sitter(1, 3), 1);
        Checks.due("without luck", x.go(0, 0, 0), 0);
        Checks.due("with luck", x.go(0, 0, 2), 1);
    }

    private static void queueBounds() {
        Checks.edge(7, "OUT for 1 TICK and those of the E of queue (0 to 9, likewise bounded)");
        String[] laws = {"0-9999", "0-1", "0", "1", "8", "9", "10", "9999"};
        int[] due = {1, 1, 1, 2, 9, 10, 10, 10};
        for (int i = 0; i < laws.length; i++) {
            PastSleep x = three("queue " + laws[i] + ";");
            x.go(0, 12, 6);
            Checks.due("queue " + laws[i], x.sitter(0, 4), due[i]);
        }
    }

    private static void queueFacts() {
        Checks.edge(7, "out (of the row, how many are out or stand); out counted ahead of him");
        StringBuilder five = new StringBuilder("row 5 flight 20;queue out*2;");
        for (int seat = 0; seat < 5; seat++) {
            five.append(one("n" + (char) ('a' + seat), seat, 1, 60, 0, 0));
        }
        PastSleep x = Checks.of(five.toString());
        x.go(0, 0, 0);
        Checks.due("none is out: not himself", x.sitter(0, 4), 1);
        x.ticks(1);
        x.go(1, 0, 0);
        Checks.due("one stands", x.sitter(1, 4), 3);
        x.go(2, 0, 0);
        Checks.due("one stands, one is out", x.sitter(2, 4), 5);
        x.go(3, 0, 0);
        x.go(4, 0, 0);
        Checks.due("three", x.sitter(3, 4), 7);
        Checks.due("four", x.sitter(4, 4), 9);
        x.ticks(1);
        x.back(0, 0, 0);
        x.go(0, 0, 0);
        Checks.due("four again", x.sitter(0, 4), 9);
        Checks.edge(7, "Facts: tick of the GOING");
        x = three("queue tick;");
        x.ticks(3);
        x.go(0, 12, 6);
        Checks.due("TICK 3", x.sitter(0, 4), 4);
    }

    private static void needIsZero() {
        Checks.edge(7, "his need is 0");
        PastSleep x = Checks.of("row 2 flight 20;" + one("a", 0, 9, 5, 0, 0));
        Checks.due("even without need one goes", x.go(0, 0, 0), 1);
        x.undo();
        x.ticks(3);
        Checks.due("need", x.sitter(0, 2), 27);
        Checks.due("one who is TOO LATE goes", x.go(0, 0, 0), 1);
        Checks.due("no need", x.sitter(0, 2), 0);
        Checks.due("TOO LATE stays counted", x.sitter(0, 9), 3);
    }

    private static void refusedGo() {
        Checks.edge(7, "he can't go: nothing to undo comes of it");
        PastSleep x = three("belt 1 to 1;");
        x.go(0, 27, 0);
        x.go(1, 0, 0);
        x.go(3, 0, 0);
        Checks.due("nothing", x.count(10), 0);
        x.go(0, 0, 0);
        x.go(0, 0, 8);
        Checks.due("the one in vain", x.count(10), 1);
    }

    private static PastSleep standing(String more) {
        PastSleep x = three(more);
        x.go(0, 3 + 9, 6);
        x.ticks(1);
        return x;
    }

    private static void backOthers() {
        Checks.edge(8, "NONE: others, he can't");
        PastSleep x = standing("");
        String ahead = Look.at(x);
        for (int far : FAR) {
            refused("back " + far, x.back(far, 12, 6), x, ahead);
        }
        for (int ways : new int[] {27, 28, -1, Integer.MIN_VALUE, Integer.MAX_VALUE}) {
            refused("ways " + ways, x.back(0, ways, 6), x, ahead);
        }
        for (int luck : new int[] {8, 9, -1, Integer.MIN_VALUE, Integer.MAX_VALUE}) {
            refused("luck " + luck, x.back(0, 12, luck), x, ahead);
        }
        refused("in his SEAT", x.back(1, 12, 6), x, ahead);
        Checks.due("nobody", new PastSleep().back(0, 0, 0), -1);
        Checks.due("the last ways, the last luck", x.back(0, 26, 7), 1);
        x = three("queue 1;");
        refused("in his SEAT", x.back(0, 12, 6), x, Look.at(x));
        x.go(0, 12, 6);
        refused("OUT for 2", x.back(0, 12, 6), x, Look.at(x));
        x.ticks(1);
        refused("OUT for 1", x.back(0, 12, 6), x, Look.at(x));
        x.ticks(1);
        Checks.due("STANDS", x.back(0, 12, 6), 1);
        refused("in his SEAT", x.back(0, 12, 6), x, Look.at(x));
    }

    private static void backFromTheAisle() {
        Checks.edge(8, "past the same ones, from the aisle on");
        PastSleep x = standing("");
        Checks.due("c in vain", x.back(0, 0, 2), 0);
        Checks.due("c was asked", x.sitter(2, 7), 1);
        Checks.due("b was not", x.sitter(1, 7), 0);
        x = standing("cup 2;");
        Checks.due("c SPILT on, b in vain", x.back(0, 9, 0), 0);
        Checks.due("c", x.sitter(2, 8), 1);
        Checks.due("b", x.sitter(1, 7), 1);
        Checks.due("c's cup", x.count(8), 0);
        x = Checks.of("row 4 flight 9;" + one("a", 1, 5, 60, 0, 0) + one("b", 0, 5, 60, 0, 9) + one("c", 2, 5, 60, 0, 9));
        x.go(0, 9, 4);
        x.ticks(1);
        Checks.due("not past who sits by the window", x.back(0, 9, 4), 1);
        Checks.due("b was not asked", x.sitter(1, 7), 0);
    }

    private static void backInVain() {
        Checks.edge(8, "comes to his SEAT likewise: 0 in vain");
        PastSleep x = standing("");
        Checks.due("c woken, b in vain", x.back(0, 0, 4), 0);
        Checks.due("STANDS", x.sitter(0, 4), -1);
        Checks.due("a waking", x.count(4), 1);
        Checks.due("in vain", x.count(5), 1);
        Checks.due("c is awake", x.sitter(2, 3), 0);
        Checks.due("again: b alone", x.back(0, 0, 2), 1);
        Checks.due("c was asked once", x.sitter(2, 7), 1);
    }

    private static void backShut() {
        Checks.edge(8, "BACK: AISLE not SHUT");
        PastSleep x = standing("belt 1 to 2;trolley 4 to 4;");
        refused("TICK 1", x.back(0, 12, 6), x, Look.at(x));
        x.ticks(1);
        refused("TICK 2", x.back(0, 12, 6), x, Look.at(x));
        x.ticks(1);
        Checks.due("TICK 3", x.back(0, 12, 6), 1);
        x.undo();
        x.ticks(1);
        refused("TICK 4", x.back(0, 12, 6), x, Look.at(x));
        x.ticks(15);
        Checks.due("TICK 19, the last", x.back(0, 12, 6), 1);
        x.undo();
        x.ticks(1);
        refused("the flight is over", x.back(0, 12, 6), x, Look.at(x));
    }

    private static void backIsIn() {
        Checks.edge(8, "1 he is in his SEAT");
        PastSleep x = standing("");
        x.ticks(2);
        Checks.due("stood for two TICKS", x.sitter(0, 2), 10);
        Checks.due("back", x.back(0, 12, 6), 1);
        Checks.due("in his SEAT", x.sitter(0, 4), 0);
        Checks.due("in it", x.seat(0, 2), 1);
        Checks.due("his need stays", x.sitter(0, 2), 10);
        Checks.due("no TICK passes", x.count(3), 3);
    }

    private static void refusedBack() {
        Checks.edge(8, "he can't: nothing to undo comes of it");
        PastSleep x = standing("");
        x.back(0, 27, 0);
        x.back(0, 0, 8);
        x.back(1, 0, 0);
        Checks.due("nothing", x.count(10), 0);
        x.back(0, 0, 0);
        Checks.due("the one in vain", x.count(10), 1);
    }

    private static void undoEmpty() {
        Checks.edge(9, "false: nothing can be");
        PastSleep x = three("");
        String ahead = Look.at(x);
        Checks.due("none yet", x.undo(), false);
        Checks.due("all stays", Look.at(x), ahead);
        x.go(0, 12, 6);
        Checks.due("one", x.undo(), true);
        Checks.due("all as it was", Look.at(x), ahead);
        Checks.due("none", x.undo(), false);
        Checks.due("all stays", Look.at(x), ahead);
    }

    private static void undoTwelve() {
        Checks.edge(9, "GOINGS and BACKS since the TICK began, the last 12, one by one");
        for (int many = 11; many <= 27; many++) {
            PastSleep x = three("");
            for (int i = 1; i <= many; i++) {
                x.go(0, 0, 0);
                Checks.due("what can be undone", x.count(10), Math.min(12, i));
            }
            for (int i = 1; i <= Math.min(12, many); i++) {
                Checks.due("undo", x.undo(), true);
                Checks.due("one by one", x.sitter(1, 7), many - i);
                Checks.due("left", x.count(10), Math.min(12, many) - i);
            }
            Checks.due("no more", x.undo(), false);
            Checks.due("those ahead stay", x.count(5), Math.max(0, many - 12));
        }
        Checks.edge(9, "GOINGS and BACKS, undone and done again");
        PastSleep x = three("");
        for (int i = 0; i < 12; i++) {
            x.go(0, 0, 0);
        }
        for (int i = 0; i < 5; i++) {
            x.undo();
        }
        for (int i = 0; i < 6; i++) {
            x.go(0, 0, 0);
        }
        Checks.due("twelve again", x.count(10), 12);
        Checks.due("7 and 6", x.count(5), 13);
        for (int i = 0; i < 12; i++) {
            x.undo();
        }
        Checks.due("the first stays", x.count(5), 1);
        Checks.due("no more", x.undo(), false);
    }

    private static void undoAll() {
        Checks.edge(9, "UNDO: GOINGS and BACKS, with all that came of them");
        PastSleep x = three("cup 1;cup 2;queue 3;");
        x.ticks(2);
        String first = Look.at(x);
        x.go(0, 3, 4);
        String second = Look.at(x);
        x.go(1, 0, 6);
        x.undo();
        Checks.due("the last one alone", Look.at(x), second);
        x.undo();
        Checks.due("cup, waking, SPILT on, asked, OUT, need", Look.at(x), first);
        x.go(0, 3, 0);
        x.undo();
        Checks.due("one in vain", Look.at(x), first);
        x = standing("cup 1;cup 2;");
        first = Look.at(x);
        x.back(0, 3, 4);
        x.undo();
        Checks.due("BACK", Look.at(x), first);
        x.back(0, 9, 0);
        x.undo();
        Checks.due("BACK in vain", Look.at(x), first);
        Checks.due("goes on from there", x.back(0, 0, 6), 1);
    }

    private static void undoNotRefused() {
        Checks.edge(9, "GOINGS and BACKS: what was refused is none");
        PastSleep x = three("");
        x.go(0, 0, 0);
        x.go(2, 0, 0);
        x.back(0, 0, 0);
        x.go(0, -1, 0);
        Checks.due("one", x.count(10), 1);
        x.undo();
        Checks.due("the GOING", x.count(5), 0);
    }

    private static void undoSinceTheTick() {
        Checks.edge(9, "since the TICK began");
        PastSleep x = three("");
        x.go(0, 0, 2);
        x.ticks(0);
        x.ticks(73);
        x.ticks(-1);
        Checks.due("no TICK passed", x.count(10), 1);
        x.ticks(1);
        Checks.due("another TICK", x.count(10), 0);
        Checks.due("nothing", x.undo(), false);
        Checks.due("b stays woken", x.count(4), 1);
        x.go(0, 0, 0);
        x.ticks(19);
        Checks.due("the flight's last TICK passed", x.undo(), false);
    }

    private static void undoNotTold() {
        Checks.edge(9, "GOINGS and BACKS: not touches, not what was told of WENT, not MARKS");
        PastSleep x = three("");
        x.go(0, 0, 0);
        x.touch(0, true);
        x.went(0, 9);
        x.mark(0, false);
        x.feed(0x41, 0, 0);
        Checks.due("the GOING", x.undo(), true);
        Checks.due("in vain no more", x.count(5), 0);
        Checks.due("the touch stays", x.truly(0, 1), 14);
        Checks.due("what was told stays", x.went(0, 9), false);
        Checks.due("the TAPE stays", x.count(11), 1);
        Checks.due("the MARK stays", x.mark(0, true), true);
        Checks.due("as it was laid", x.count(5), 1);
    }

    private static void ticksOthers() {
        Checks.edge(10, "So many TICKS (1 to 72) pass: which it is then; NONE: others");
        PastSleep x = Checks.of("row 2 flight 72;" + one("a", 0, 1, 60, 0, 0));
        String ahead = Look.at(x);
        for (int many : new int[] {0, 73, -1, 74, Integer.MIN_VALUE, Integer.MAX_VALUE}) {
            refused("ticks " + many, x.ticks(many), x, ahead);
        }
        Checks.due("1", x.ticks(1), 1);
        Checks.due("which it is, not how many", x.ticks(2), 3);
        Checks.due("need", x.sitter(0, 2), 3);
        Checks.due("72", Checks.of("row 2 flight 72;").ticks(72), 72);
        Checks.due("71", Checks.of("row 2 flight 72;").ticks(71), 71);
    }

    private static void ticksEnd() {
        Checks.edge(10, "behind the last TICK none passes (the flight is over, the AISLE is SHUT)");
        PastSleep x = Checks.of("row 2 flight 3;" + one("a", 0, 5, 9, 0, 0));
        Checks.due("3 of 72", x.ticks(72), 3);
        String ahead = Look.at(x);
        Checks.due("TOO LATE behind 2 and 3", x.count(7), 2);
        Checks.due("none", x.ticks(1), 3);
        Checks.due("none", x.ticks(72), 3);
        Checks.due("all stays", Look.at(x), ahead);
        Checks.due("0 is refused there, too", x.ticks(0), -1);
        Checks.due("a new object's one TICK", new PastSleep().ticks(1), 1);
    }

    private static void needsGrow() {
        Checks.edge(10, "needs grow of all but those OUT; a drinker's needs grow by twice his needs");
        PastSleep x = Checks.of("row 5 flight 20;" + one("a", 0, 5, 60, 0, 0) + one("b", 1, 4, 60, 0, 20)
            + Checks.sitter("c", "drinker", 2, 9, 60, 50, 5, 30, 0, 0) + one("d", 3, 0, 60, 0, 0) + one("e", 4, 7, 60, 0, 0) + "queue 1;");
        x.go(4, 0, 0);
        int[][] due = {{5, 10, 15}, {4, 8, 12}, {18, 36, 54}, {0, 0, 0}, {0, 0, 7}};
        for (int tick = 0; tick < 3; tick++) {
            x.ticks(1);
            for (int i = 0; i < 5; i++) {
                Checks.due("need of " + i + " behind TICK " + tick, x.sitter(i, 2), due[i][tick]);
            }
        }
        Checks.due("he STANDS: his need grows", x.sitter(4, 4), -1);
    }

    private static void needsMost() {
        Checks.edge(10, "needs grow (199 at most)");
        PastSleep x = Checks.of("row 2 flight 72;" + Checks.sitter("a", "drinker", 0, 9, 99, 99, 5, 30, 0, 0) + one("b", 1, 3, 99, 0, 0));
        x.ticks(11);
        Checks.due("11 times 18", x.sitter(0, 2), 198);
        x.ticks(1);
        Checks.due("not 216", x.sitter(0, 2), 199);
        x.ticks(54);
        Checks.due("66 times 3", x.sitter(1, 2), 198);
        Checks.due("at 199 on", x.sitter(0, 2), 199);
        x.ticks(1);
        Checks.due("not 201", x.sitter(1, 2), 199);
        PastSleep y = Checks.of("row 2 flight 72;" + one("b", 1, 1, 99, 0, 0));
        y.ticks(72);
        Checks.due("no more TICKS", y.sitter(0, 2), 72);
    }

    private static void tooLate() {
        Checks.edge(10, "whose need is above limit then is TOO LATE (counted, each TICK)");
        PastSleep x = Checks.of("row 2 flight 20;" + one("a", 0, 5, 10, 0, 0) + one("b", 1, 5, 9, 0, 20));
        int[] a = {0, 0, 1, 2, 2, 2, 2, 3};
        int[] b = {0, 1, 2, 3, 4, 5, 6, 7};
        for (int tick = 0; tick < a.length; tick++) {
            if (tick == 4) {
                x.go(0, 3, 2);
            }
            x.ticks(1);
            Checks.due("limit 10, goes at 4, behind " + tick, x.sitter(0, 9), a[tick]);
            Checks.due("limit 9, ASLEEP", x.sitter(1, 9), b[tick]);
            Checks.due("both", x.count(7), a[tick] + b[tick]);
        }
        Checks.due("who STANDS, too", x.sitter(0, 4), -1);
        PastSleep y = Checks.of("row 2 flight 20;" + one("a", 0, 9, 99, 0, 0));
        y.ticks(11);
        Checks.due("99 is not above 99", y.count(7), 0);
        y.ticks(1);
        Checks.due("108 is", y.count(7), 1);
    }

    private static void outLess() {
        Checks.edge(10, "who is OUT is so one TICK less");
        PastSleep x = three("queue 3;");
        x.go(0, 12, 6);
        x.ticks(3);
        Checks.due("4 - 3", x.sitter(0, 4), 1);
        x.ticks(1);
        Checks.due("STANDS", x.sitter(0, 4), -1);
        x = three("queue 9;");
        x.go(0, 12, 6);
        Checks.due("many at once", x.ticks(10), 10);
        Checks.due("STANDS", x.sitter(0, 4), -1);
        Checks.due("no need yet", x.sitter(0, 2), 0);
    }
}
