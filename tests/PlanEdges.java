/** The edges of promises 18 to 21: REGIME, FEWEST, BEFORE, STANDING. */
public final class PlanEdges {
    private static final int[] FAR = {Integer.MIN_VALUE, -2, -1, 5, 6, 31, 32, 72, 1 << 30, Integer.MAX_VALUE};

    public static void main(String[] args) {
        regimeOthers();
        regimeOver();
        regimeLastTick();
        regimeEqual();
        regimeLimit();
        regimeMustWait();
        regimeThere();
        regimeOverByThen();
        regimeOutIsZero();
        regimeAsWoken();
        regimeInTheirSeats();
        regimeCut();
        regimeBestWays();
        regimeMost();
        regimeBackThoughShut();
        fewestOthers();
        fewestNone();
        fewestOver();
        fewestLastTick();
        fewestLimit();
        fewestEqual();
        fewestCant();
        fewestSurely();
        fewestForThatAlone();
        fewestFull();
        fewestBack();
        beforeOthers();
        beforeLimit();
        beforeShut();
        beforeEnds();
        beforeOut();
        standingOthers();
        standingTwelve();
        standingEqual();
        standingShut();
        standingEnd();
        standingWithoutVain();
        standingPrice();
        Checks.end();
    }

    private static String a(int needs, int limit, int from, int to) {
        return Checks.sitter("a", "plain", 0, needs, limit, 50, 5, 30, from, to);
    }

    private static String b(int seat, int depth, int from, int to) {
        return Checks.sitter("b", "plain", seat, 0, 60, 50, depth, 30, from, to);
    }

    private static String row(int seats, int flight) {
        return "row " + seats + " flight " + flight + ";";
    }

    private static void regime(PastSleep x, int cost, int goes) {
        Checks.due("regime", x.regime(0, 0), cost);
        Checks.due("goes now", x.regime(0, 1), goes);
    }

    private static void fewest(PastSleep x, int many, int first) {
        Checks.due("fewest", x.fewest(0, 0), many);
        Checks.due("first TICK", x.fewest(0, 1), first);
    }

    private static void regimeOthers() {
        Checks.edge(18, "NONE: others, not in his SEAT");
        PastSleep x = Checks.of(row(2, 9) + a(9, 8, 0, 0) + "queue 1;");
        for (int far : FAR) {
            for (int what = 0; what <= 1; what++) {
                Checks.due("sitter " + far, x.regime(far, what), -1);
            }
        }
        for (int far : new int[] {Integer.MIN_VALUE, -1, 2, Integer.MAX_VALUE}) {
            Checks.due("what " + far, x.regime(0, far), -1);
        }
        Checks.due("the second of one", x.regime(1, 0), -1);
        Checks.due("nobody", new PastSleep().regime(0, 0), -1);
        Checks.due("what 1", x.regime(0, 1), 1);
        x.go(0, 0, 0);
        for (int left = 2; left >= 0; left--) {
            regime(x, -1, -1);
            x.ticks(1);
        }
        x.back(0, 0, 0);
        Checks.due("in his SEAT", x.regime(0, 1), 1);
    }

    private static void regimeOver() {
        Checks.edge(18, "from now till the flight's end: it is over");
        PastSleep x = Checks.of(row(2, 1) + a(9, 8, 0, 0) + "price 1 1 7 1;");
        regime(x, 0, 1);
        x.ticks(1);
        regime(x, 0, 0);
    }

    private static void regimeLastTick() {
        Checks.edge(18, "each TICK he waits or goes: the last one");
        PastSleep x = Checks.of(row(2, 72) + a(9, 8, 0, 72) + b(1, 4, 0, 72) + "price 1 1 7 1;");
        regime(x, 72 * 7000, 0);
        x.ticks(71);
        regime(x, 7000, 0);
        x = Checks.of(row(2, 72) + a(9, 8, 0, 71) + b(1, 4, 0, 72) + "price 1 1 7 1;");
        x.ticks(70);
        regime(x, 7000 + 300, 0);
        x.ticks(1);
        regime(x, 300, 1);
    }

    private static void regimeEqual() {
        Checks.edge(18, "What is least; waiting if equal");
        regime(Checks.of(row(2, 1) + a(5, 5, 0, 0)), 0, 0);
        regime(Checks.of(row(2, 1) + a(5, 4, 0, 0)), 0, 1);
        regime(Checks.of(row(2, 1) + a(5, 4, 0, 0) + "price 1 1 0 1;"), 0, 0);
        regime(Checks.of(row(2, 1) + a(5, 4, 0, 0) + b(1, 0, 0, 9) + "price 7 99 7 1;"), 7000, 0);
        regime(Checks.of(row(2, 1) + a(5, 4, 0, 0) + b(1, 0, 0, 9) + "price 6 99 7 1;"), 6000, 1);
        regime(Checks.of(row(2, 1) + a(5, 4, 0, 0) + b(1, 0, 0, 9) + "price 8 99 7 1;"), 7000, 0);
    }

    private static void regimeLimit() {
        Checks.edge(18, "1000 times the price of a TICK too late if he is TOO LATE then");
        String shut = "belt 0 to 71;price 1 1 7 1;";
        regime(Checks.of(row(2, 1) + a(5, 5, 0, 0) + shut), 0, 0);
        regime(Checks.of(row(2, 1) + a(5, 4, 0, 0) + shut), 7000, 0);
        regime(Checks.of(row(2, 4) + a(5, 14, 0, 0) + shut), 14000, 0);
        regime(Checks.of(row(2, 4) + a(5, 15, 0, 0) + shut), 7000, 0);
        regime(Checks.of(row(2, 4) + a(0, 1, 0, 0) + shut), 0, 0);
        PastSleep x = Checks.of(row(2, 4) + a(5, 14, 0, 0) + shut);
        x.ticks(3);
        regime(x, 7000, 0);
        x = Checks.of(row(2, 4) + a(5, 14, 0, 0).replace("plain", "drinker") + shut);
        regime(x, 21000, 0);
    }

    private static void regimeMustWait() {
        Checks.edge(18, "in his SEAT, not ASLEEP, the AISLE not SHUT, goes");
        regime(Checks.of(row(2, 3) + a(5, 4, 0, 1) + "price 1 1 7 1;"), 7000, 0);
        regime(Checks.of(row(2, 3) + a(5, 4, 1, 2) + "price 1 1 7 1;"), 7000, 1);
        regime(Checks.of(row(2, 3) + a(5, 4, 0, 0) + "price 1 1 7 1;belt 0 to 0;"), 7000, 0);
        regime(Checks.of(row(2, 3) + a(5, 4, 0, 0) + "price 1 1 7 1;trolley 1 to 2;"), 14000, 1);
        Checks.edge(18, "he himself ASLEEP by his time, but woken: he can go");
        PastSleep x = Checks.of(row(3, 9) + b(0, 5, 0, 0) + Checks.sitter("a", "plain", 1, 5, 4, 50, 5, 30, 0, 9) + "price 1 1 7 1;queue 9;");
        Checks.due("ASLEEP", x.regime(1, 0), 9 * 7000);
        x.go(0, 0, 2);
        Checks.due("woken", x.regime(1, 0), 0);
        Checks.due("goes", x.regime(1, 1), 1);
    }

    private static void regimeThere() {
        Checks.edge(18, "he is there again behind the TICKS of the queue (out 0) and 1, need 0, having paid the same for the BEST WAYS of that TICK");
        String ab = a(9, 8, 0, 0) + "price 3 9 50 1;spill 10;wake 10;queue 1;";
        regime(Checks.of(row(2, 3) + ab + b(1, 5, 2, 3)), 6000, 1);
        regime(Checks.of(row(2, 3) + ab + b(1, 5, 1, 2)), 0, 1);
        regime(Checks.of(row(2, 3) + ab + b(1, 5, 0, 1)), 3000, 1);
        regime(Checks.of(row(2, 3) + ab + b(1, 5, 0, 3)), 9000, 1);
        Checks.edge(18, "need 0: then he may wait");
        regime(Checks.of(row(2, 3) + a(5, 10, 0, 0) + "price 3 9 50 1;spill 10;wake 10;belt 2 to 2;" + b(1, 5, 1, 3)), 3000, 1);
        regime(Checks.of(row(2, 3) + a(5, 9, 0, 0) + "price 3 9 50 1;spill 10;wake 10;belt 2 to 2;" + b(1, 5, 1, 3)), 6000, 0);
    }

    private static void regimeOverByThen() {
        Checks.edge(18, "having paid the same for the BEST WAYS of that TICK (0 if the flight is over)");
        String ab = a(9, 8, 0, 0) + b(1, 5, 1, 9) + "price 3 9 50 1;spill 10;wake 10;queue 1;";
        regime(Checks.of(row(2, 2) + ab), 0, 1);
        regime(Checks.of(row(2, 3) + ab), 6000, 1);
        regime(Checks.of(row(2, 72) + a(9, 8, 0, 0) + b(1, 5, 1, 72) + "price 3 9 50 1;queue 9;belt 1 to 71;"), 700 + 62 * 50000 + 2000, 1);
    }

    private static void regimeOutIsZero() {
        Checks.edge(18, "the TICKS of the queue (out 0), whoever is out now");
        PastSleep x = Checks.of(row(3, 3) + a(9, 8, 0, 0) + b(1, 5, 1, 3) + Checks.sitter("c", "plain", 2, 0, 9, 9, 5, 30, 0, 0)
            + "price 3 9 50 1;spill 10;wake 10;queue out*9;");
        regime(x, 12000, 1);
        x.go(2, 0, 0);
        regime(x, 12000, 1);
        Checks.edge(18, "the TICKS of the queue, of the TICK that he goes in");
        regime(Checks.of(row(2, 6) + a(9, 8, 0, 0) + b(1, 5, 1, 9) + "price 3 9 50 1;spill 10;wake 10;queue 9*tick;"), 6000, 1);
    }

    private static void regimeAsWoken() {
        Checks.edge(18, "the others asleep by their times alone (and as they were woken)");
        String text = row(2, 6) + a(9, 8, 0, 0) + b(1, 5, 0, 9) + "price 3 9 50 1;spill 10;wake 10;";
        PastSleep x = Checks.of(text);
        x.go(0, 0, 2);
        x.ticks(1);
        x.back(0, 0, 0);
        regime(x, 12000, 1);
        x = Checks.of(text);
        x.ticks(1);
        regime(x, 9 * 3000, 1);
    }

    private static void regimeInTheirSeats() {
        Checks.edge(18, "the others in their SEATS if they are now");
        PastSleep x = Checks.of(row(2, 4) + a(9, 8, 0, 0) + b(1, 5, 1, 9) + "price 3 9 50 1;spill 10;wake 10;");
        regime(x, 18000, 1);
        x.go(1, 0, 0);
        regime(x, 0, 1);
        x.ticks(1);
        regime(x, 0, 1);
        x.back(1, 0, 0);
        regime(x, 15000, 1);
    }

    private static void regimeCut() {
        Checks.edge(18, "COST in thousandths, cut at each state");
        String ab = a(5, 9, 0, 0) + b(1, 3, 0, 9) + Checks.sitter("c", "plain", 2, 0, 60, 50, 7, 30, 0, 9);
        // .79 * 12530 = 9898.7, .79 * 5530 = 4368.7; .21 * 4368 + .79 * 9898 = 8736.7, uncut it were 8737.4
        regime(Checks.of(row(3, 3) + ab + "price 0 99 7 1;"), 8736, 1);
        regime(Checks.of(row(3, 2) + ab.replace("limit 9", "limit 4") + "price 0 99 7 1;"), (7900 * (7000 + 5530) + 2100 * 5530) / 10000, 1);
    }

    private static void regimeBestWays() {
        Checks.edge(18, "goes by the BEST WAYS of that TICK: asking, spilling (COST without the part in vain, by ten, cut)");
        regime(Checks.of(row(2, 1) + a(5, 4, 0, 0) + b(1, 5, 0, 9) + "price 0 1 9 1;"), 300, 1);
        regime(Checks.of(row(2, 1) + a(5, 4, 0, 0) + b(1, 5, 0, 9) + "price 2 99 9 1;"), 2000 + 4500, 1);
        regime(Checks.of(row(2, 1) + a(5, 4, 0, 0) + b(1, 5, 0, 9) + "price 2 1 9 1;spill 9-side*7;"), 200, 1);
        Checks.edge(18, "by CHANCE (of ten thousand) he is there again; else he has waited");
        regime(Checks.of(row(2, 1) + a(5, 4, 0, 0) + b(1, 5, 0, 9) + "price 0 99 9 1;wake 0;"), 9000, 0);
        regime(Checks.of(row(2, 1) + a(5, 4, 0, 0) + b(1, 5, 0, 9) + "price 0 99 9 1;wake 1;"), 8100, 1);
        regime(Checks.of(row(2, 1) + a(5, 4, 0, 0) + b(1, 5, 0, 9) + "price 0 99 9 1;wake 10;"), 0, 1);
    }

    private static void regimeMost() {
        Checks.edge(18, "from now till the flight's end: 72 TICKS of 99");
        regime(Checks.of(row(2, 72) + a(9, 1, 0, 0) + "price 99 99 99 99;belt 0 to 71;"), 72 * 99000, 0);
        StringBuilder five = new StringBuilder(row(5, 72) + a(9, 1, 0, 0) + "price 99 99 99 99;wake 0;spill 10;");
        for (int seat = 1; seat < 5; seat++) {
            five.append(b(seat, 9, 0, 72).replace("sitter b", "sitter b" + (char) ('a' + seat)));
        }
        regime(Checks.of(five.toString()), 72 * 99000, 0);
    }

    private static void regimeBackThoughShut() {
        Checks.edge(18, "he is there again behind the TICKS of the queue and 1: though the AISLE is SHUT then");
        regime(Checks.of(row(2, 4) + a(9, 8, 0, 0) + b(1, 5, 1, 9) + "price 3 9 7 1;spill 10;wake 10;belt 1 to 3;"), 3000 + 3 * 7000, 1);
    }

    private static void fewestOthers() {
        Checks.edge(19, "NONE: others, not in his SEAT");
        PastSleep x = Checks.of(row(2, 9) + a(9, 8, 0, 0) + "queue 1;");
        for (int far : FAR) {
            for (int what = 0; what <= 1; what++) {
                Checks.due("sitter " + far, x.fewest(far, what), -1);
            }
        }
        for (int far : new int[] {Integer.MIN_VALUE, -1, 2, Integer.MAX_VALUE}) {
            Checks.due("what " + far, x.fewest(0, far), -1);
        }
        Checks.due("the second of one", x.fewest(1, 0), -1);
        Checks.due("nobody", new PastSleep().fewest(0, 0), -1);
        fewest(x, 0, 0);
        x.go(0, 0, 0);
        for (int left = 2; left >= 0; left--) {
            fewest(x, -1, -1);
            x.ticks(1);
        }
        x.back(0, 0, 0);
        x.go(0, 0, 0);
        x.ticks(2);
        x.back(0, 0, 0);
        fewest(x, 0, 5);
    }

    private static void fewestNone() {
        Checks.edge(19, "the first TICK (NONE: he need not go)");
        fewest(Checks.of(row(2, 9) + a(1, 9, 0, 0) + b(1, 5, 0, 9)), 0, -1);
        fewest(Checks.of(row(2, 72) + a(0, 1, 0, 0) + b(1, 5, 0, 72)), 0, -1);
        fewest(Checks.of(row(2, 72) + a(1, 72, 0, 72) + b(1, 5, 0, 72) + "belt 0 to 71;"), 0, -1);
    }

    private static void fewestOver() {
        Checks.edge(19, "FEWEST wakings of one from now on: the flight is over");
        PastSleep x = Checks.of(row(2, 2) + a(9, 8, 0, 0) + b(1, 5, 0, 9));
        x.ticks(2);
        fewest(x, 0, -1);
    }

    private static void fewestLastTick() {
        Checks.edge(19, "so that he is never TOO LATE: in the last TICK, too");
        fewest(Checks.of(row(2, 9) + a(1, 8, 0, 0) + b(1, 5, 0, 9)), 1, 8);
        fewest(Checks.of(row(2, 1) + a(9, 8, 0, 0) + b(1, 5, 0, 9)), 1, 0);
        fewest(Checks.of(row(2, 72) + a(1, 71, 0, 0) + b(1, 5, 0, 72)), 1, 71);
    }

    private static void fewestLimit() {
        Checks.edge(19, "so that he is never TOO LATE: whose need is above limit");
        fewest(Checks.of(row(2, 5) + a(2, 8, 0, 0) + b(1, 5, 0, 9)), 1, 4);
        fewest(Checks.of(row(2, 5) + a(2, 7, 0, 0) + b(1, 5, 0, 9)), 2, 3);
        PastSleep x = Checks.of(row(2, 5) + a(2, 7, 0, 0) + b(1, 5, 0, 9));
        x.ticks(4);
        Checks.due("TOO LATE already", x.sitter(0, 9), 1);
        Checks.due("he goes at once", x.fewest(0, 0), 1);
        Checks.due("now", x.fewest(0, 1), 4);
    }

    private static void fewestEqual() {
        Checks.edge(19, "the TICK of the first going (waiting if equal)");
        fewest(Checks.of(row(2, 5) + a(2, 7, 0, 0)), 0, 3);
        fewest(Checks.of(row(2, 5) + a(2, 7, 0, 0) + "belt 3 to 3;"), 0, 2);
        fewest(Checks.of(row(2, 5) + a(2, 7, 0, 0) + b(1, 5, 2, 9)), 1, 1);
        fewest(Checks.of(row(2, 5) + a(2, 7, 0, 0) + b(1, 5, 1, 9)), 2, 3);
        PastSleep x = Checks.of(row(2, 5) + a(2, 7, 0, 0));
        x.ticks(2);
        fewest(x, 0, 3);
        x.ticks(1);
        fewest(x, 0, 3);
    }

    private static void fewestCant() {
        Checks.edge(19, "NONE: it can't be");
        fewest(Checks.of(row(2, 3) + a(5, 4, 0, 1)), -1, -1);
        fewest(Checks.of(row(2, 3) + a(5, 5, 0, 1)), 0, 1);
        fewest(Checks.of(row(2, 3) + a(5, 4, 0, 0) + "belt 0 to 0;"), -1, -1);
        fewest(Checks.of(row(2, 3) + a(5, 4, 0, 0) + "belt 2 to 2;"), -1, -1);
        fewest(Checks.of(row(2, 72) + a(9, 1, 0, 0) + "belt 0 to 71;"), -1, -1);
        fewest(Checks.of(row(2, 3) + a(5, 4, 0, 0) + "belt 2 to 2;queue 1;"), -1, -1);
        fewest(Checks.of(row(2, 3) + a(5, 4, 0, 0) + "belt 2 to 2;queue 2;"), 0, 0);
    }

    private static void fewestSurely() {
        Checks.edge(19, "all asked waking at once");
        for (String law : new String[] {"", "wake 0;", "wake 10;", "wake tick;"}) {
            fewest(Checks.of(row(2, 1) + a(5, 4, 0, 0) + b(1, 9, 0, 9) + law + "price 9 0 9 9;spill 0;"), 1, 0);
        }
    }

    private static void fewestForThatAlone() {
        Checks.edge(19, "and being woken for that alone: each ASLEEP ahead of him as he goes, as he comes back");
        fewest(Checks.of(row(2, 12) + a(5, 4, 0, 0) + b(1, 5, 0, 72)), 23, 0);
        fewest(Checks.of(row(2, 72) + a(5, 4, 0, 0) + b(1, 5, 0, 72)), 143, 0);
        PastSleep x = Checks.of(row(2, 6) + a(9, 8, 0, 0) + b(1, 5, 0, 9));
        x.go(0, 0, 2);
        x.ticks(1);
        x.back(0, 0, 0);
        Checks.edge(19, "each ASLEEP ahead of him: not who was woken in the three TICKS ahead");
        fewest(x, 4, 1);
    }

    private static void fewestFull() {
        Checks.edge(19, "each ASLEEP ahead of him: the full row");
        StringBuilder five = new StringBuilder(row(5, 3) + a(5, 9, 0, 0));
        for (int seat = 1; seat < 5; seat++) {
            five.append(b(seat, 9, 0, 72).replace("sitter b", "sitter b" + (char) ('a' + seat)));
        }
        fewest(Checks.of(five.toString()), 8, 1);
        fewest(Checks.of(five.toString().replace("row 5 flight 3", "row 5 flight 2")), 4, 1);
        PastSleep x = Checks.of(row(3, 3) + a(5, 9, 0, 0).replace("at 0", "at 2") + b(1, 5, 0, 9));
        fewest(x, 0, 1);
    }

    private static void fewestBack() {
        Checks.edge(19, "as he comes back (likewise): behind the TICKS of the queue and 1, none if the flight is over");
        fewest(Checks.of(row(2, 4) + a(3, 8, 0, 0) + b(1, 5, 3, 4) + "queue 2;belt 1 to 3;"), 1, 0);
        fewest(Checks.of(row(2, 4) + a(3, 8, 0, 0) + b(1, 5, 3, 4) + "queue 1;belt 1 to 3;"), 0, 0);
        fewest(Checks.of(row(2, 4) + a(3, 8, 0, 0) + b(1, 5, 1, 3) + "queue 2;belt 1 to 3;"), 0, 0);
        fewest(Checks.of(row(2, 4) + a(3, 8, 0, 0) + b(1, 5, 1, 4) + "queue 3;belt 1 to 3;"), 0, 0);
        Checks.edge(19, "as he comes back: need 0, though the AISLE is SHUT then");
        fewest(Checks.of(row(2, 4) + a(3, 9, 0, 0) + b(1, 5, 1, 9) + "belt 1 to 3;"), 1, 0);
    }

    private static void beforeOthers() {
        Checks.edge(20, "NONE: others");
        PastSleep x = Checks.of(row(2, 9) + a(5, 20, 0, 0));
        for (int far : FAR) {
            Checks.due("sitter " + far, x.before(far), -1);
        }
        Checks.due("the second of one", x.before(1), -1);
        Checks.due("nobody", new PastSleep().before(0), -1);
        Checks.due("the one", x.before(0), 4);
    }

    private static void beforeLimit() {
        Checks.edge(20, "at whose beginning his need is not above limit");
        int[] limits = {1, 4, 5, 9, 10, 14, 15, 39, 40, 41, 99};
        int[] due = {0, 0, 1, 1, 2, 2, 3, 7, 8, 8, 8};
        for (int i = 0; i < limits.length; i++) {
            Checks.due("needs 5, limit " + limits[i], Checks.of(row(2, 9) + a(5, limits[i], 0, 0)).before(0), due[i]);
        }
        PastSleep x = Checks.of(row(2, 9) + a(5, 10, 0, 0));
        x.ticks(2);
        Checks.due("at the limit: now", x.before(0), 2);
        x.ticks(1);
        Checks.due("above it: none", x.before(0), -1);
        Checks.due("a drinker", Checks.of(row(2, 9) + a(5, 20, 0, 0).replace("plain", "drinker")).before(0), 2);
    }

    private static void beforeShut() {
        Checks.edge(20, "the last TICK from now on with the AISLE not SHUT");
        Checks.due("4 is SHUT", Checks.of(row(2, 9) + a(5, 20, 0, 0) + "trolley 4 to 4;").before(0), 3);
        Checks.due("1 to 4 are", Checks.of(row(2, 9) + a(5, 20, 0, 0) + "trolley 1 to 4;").before(0), 0);
        Checks.due("5 is", Checks.of(row(2, 9) + a(5, 20, 0, 0) + "trolley 5 to 8;").before(0), 4);
        Checks.due("none", Checks.of(row(2, 9) + a(5, 20, 0, 0) + "trolley 0 to 4;").before(0), -1);
        PastSleep x = Checks.of(row(2, 9) + a(5, 20, 0, 0) + "trolley 2 to 4;");
        x.ticks(1);
        Checks.due("now", x.before(0), 1);
        x.ticks(1);
        Checks.due("none from now on", x.before(0), -1);
    }

    private static void beforeEnds() {
        Checks.edge(20, "the last TICK from now on: of the flight");
        Checks.due("no needs", Checks.of(row(2, 72) + a(0, 1, 0, 72)).before(0), 71);
        Checks.due("a flight of 1", Checks.of(row(2, 1) + a(9, 1, 0, 0)).before(0), 0);
        PastSleep x = Checks.of(row(2, 5) + a(0, 1, 0, 0));
        x.ticks(4);
        Checks.due("the last one", x.before(0), 4);
        x.ticks(1);
        Checks.due("over", x.before(0), -1);
    }

    private static void beforeOut() {
        Checks.edge(20, "his need, none going: needs grow of all but those OUT");
        PastSleep x = Checks.of(row(2, 20) + a(5, 9, 0, 0) + "queue 2;");
        x.ticks(3);
        Checks.due("none", x.before(0), -1);
        x.go(0, 0, 0);
        Checks.due("OUT for 3, then 1", x.before(0), 7);
        x.ticks(3);
        Checks.due("STANDS", x.before(0), 7);
        x.ticks(2);
        Checks.due("none again", x.before(0), -1);
    }

    private static PastSleep stands(int flight, int to, String more) {
        PastSleep x = Checks.of(row(2, flight) + a(5, 60, 0, 0) + b(1, 5, 0, to) + more);
        x.go(0, 3, 2);
        x.ticks(1);
        return x;
    }

    private static void standingOthers() {
        Checks.edge(21, "NONE: others, he does not STAND");
        PastSleep x = Checks.of(row(2, 9) + a(5, 60, 0, 0) + b(1, 5, 0, 0) + "queue 1;");
        Checks.due("in his SEAT", x.standing(0), -1);
        x.go(0, 0, 0);
        Checks.due("OUT for 2", x.standing(0), -1);
        x.ticks(1);
        Checks.due("OUT for 1", x.standing(0), -1);
        x.ticks(1);
        Checks.due("STANDS", x.standing(0), 0);
        Checks.due("the other does not", x.standing(1), -1);
        Checks.due("the third of two", x.standing(2), -1);
        for (int far : FAR) {
            Checks.due("sitter " + far, x.standing(far), -1);
        }
        x.back(0, 0, 0);
        Checks.due("in his SEAT again", x.standing(0), -1);
        Checks.due("nobody", new PastSleep().standing(0), -1);
    }

    private static void standingTwelve() {
        Checks.edge(21, "the least k (0 to 12)");
        Checks.due("b sleeps till 13", stands(30, 13, "price 4 99 0 0;spill 10;").standing(0), 12);
        Checks.due("b sleeps till 14", stands(30, 14, "price 4 99 0 0;spill 10;").standing(0), 0);
        Checks.due("b sleeps till 12", stands(30, 12, "price 4 99 0 0;spill 10;").standing(0), 11);
        Checks.due("b is awake", stands(30, 1, "price 4 99 0 0;spill 10;").standing(0), 0);
    }

    private static void standingEqual() {
        Checks.edge(21, "the least k with which .. are least");
        Checks.due("3 TICKS of 1 for 4", stands(30, 4, "price 4 99 0 1;spill 10;").standing(0), 3);
        Checks.due("4 TICKS of 1 for 4", stands(30, 5, "price 4 99 0 1;spill 10;").standing(0), 0);
        Checks.due("5 TICKS of 1 for 4", stands(30, 6, "price 4 99 0 1;spill 10;").standing(0), 0);
        Checks.due("nothing costs", stands(30, 20, "price 0 0 0 0;").standing(0), 0);
    }

    private static void standingShut() {
        Checks.edge(21, "the AISLE not SHUT then; NONE: none");
        Checks.due("SHUT now", stands(30, 1, "belt 1 to 1;").standing(0), 1);
        Checks.due("SHUT for 12", stands(30, 1, "belt 1 to 12;price 1 1 1 99;").standing(0), 12);
        Checks.due("SHUT for 13", stands(30, 1, "belt 1 to 13;price 1 1 1 0;").standing(0), -1);
        Checks.due("SHUT as b wakes", stands(30, 4, "belt 4 to 4;price 9 99 0 1;spill 10;").standing(0), 4);
        Checks.due("SHUT but now", stands(30, 4, "belt 2 to 20;price 9 99 0 0;spill 10;").standing(0), 0);
    }

    private static void standingEnd() {
        Checks.edge(21, "the flight is over, the AISLE is SHUT");
        Checks.due("the last TICK", stands(5, 4, "price 9 99 0 1;spill 10;").standing(0), 3);
        Checks.due("b wakes as the flight ends", stands(4, 4, "price 9 99 0 1;spill 10;").standing(0), 0);
        Checks.due("SHUT till the end", stands(4, 4, "belt 1 to 3;").standing(0), -1);
        PastSleep x = stands(4, 4, "");
        x.ticks(3);
        Checks.due("over", x.standing(0), -1);
        x = Checks.of(row(2, 72) + a(5, 60, 0, 0) + b(1, 5, 0, 71) + "price 9 99 0 0;spill 10;");
        x.ticks(60);
        x.go(0, 3, 2);
        x.ticks(1);
        Checks.due("TICK 71 of 72", x.standing(0), 10);
    }

    private static void standingWithoutVain() {
        Checks.edge(21, "the COST of the BEST WAYS back (without the part in vain) k TICKS on");
        Checks.due("asked for 1 now or later", stands(30, 20, "price 1 9 1 0;wake tick;").standing(0), 0);
        Checks.due("climbed past now for 27000, asked at 2 for 20000", stands(30, 20, "price 2 9 6 0;wake 9*(1<tick);").standing(0), 1);
        Checks.due("the armrests at 4 for nothing", stands(30, 20, "price 9 9 9 0;spill 5-side*(tick=4)*5;").standing(0), 3);
    }

    private static void standingPrice() {
        Checks.edge(21, "k times the price of standing (times ten thousand)");
        Checks.due("1 a TICK, 2 less", stands(30, 3, "price 99 1 99 1;spill 10*(tick<2)+5*(tick=2);").standing(0), 0);
        Checks.due("0 a TICK", stands(30, 3, "price 99 1 99 0;spill 10*(tick<2)+5*(tick=2);").standing(0), 2);
        Checks.due("1 a TICK, 20000 less", stands(30, 2, "price 99 2 99 1;spill 10;").standing(0), 1);
        Checks.due("99 a TICK, 990000 now", stands(30, 2, "price 99 99 99 99;spill 10;").standing(0), 0);
        Checks.due("98 a TICK, 990000 now", stands(30, 2, "price 99 99 99 98;spill 10;").standing(0), 1);
    }
}
