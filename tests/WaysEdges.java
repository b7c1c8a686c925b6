/** The edges of promises 11 and 14 to 17: LENGTH, CHANCE, COST, BEST WAYS, SIDE. */
public final class WaysEdges {
    private static final int[] FAR = {Integer.MIN_VALUE, -2, -1, 5, 6, 31, 32, 72, 1 << 30, Integer.MAX_VALUE};

    public static void main(String[] args) {
        lengthOthers();
        lengthLimit();
        lengthEnd();
        lengthLate();
        lengthGrowth();
        lengthOut();
        waysOthers();
        waysBounds();
        himselfAsleep();
        outOrStanding();
        shutOrOver();
        chanceNone();
        chanceFull();
        chanceZero();
        chanceClean();
        chanceCut();
        costNone();
        costAsked();
        costSpilt();
        costVain();
        costMost();
        bestNone();
        bestFull();
        bestEqual();
        bestSides();
        bestWithVain();
        sideOthers();
        sideEqual();
        sideBounded();
        Checks.end();
    }

    private static String one(String name, int seat, int needs, int limit, int depth, int from, int to) {
        return Checks.sitter(name, "plain", seat, needs, limit, 50, depth, 30, from, to);
    }

    /** a by the window, awake; b, c, d, e ASLEEP, of DEPTH 1, 2, 3, 4, e at the aisle. */
    private static PastSleep five(String more) {
        return Checks.of("row 5 flight 20;" + one("a", 0, 5, 60, 5, 0, 0) + one("b", 1, 5, 60, 1, 0, 20) + one("c", 2, 5, 60, 2, 0, 20)
            + one("d", 3, 5, 60, 3, 0, 20) + one("e", 4, 5, 60, 4, 0, 20) + more);
    }

    /** a by the window, awake; b of DEPTH 4 ASLEEP. */
    private static PastSleep two(String more) {
        return Checks.of("row 2 flight 20;" + one("a", 0, 5, 60, 5, 0, 0) + one("b", 1, 5, 60, 4, 0, 20) + more);
    }

    private static void lengthOthers() {
        Checks.edge(11, "NONE: others");
        PastSleep x = Checks.of("row 2 flight 20;" + one("a", 0, 9, 1, 5, 0, 0));
        Checks.due("the one", x.length(0), 1);
        Checks.due("the second of one", x.length(1), -1);
        for (int far : FAR) {
            Checks.due("sitter " + far, x.length(far), -1);
        }
        Checks.due("nobody", new PastSleep().length(0), -1);
    }

    private static void lengthLimit() {
        Checks.edge(11, "TICKS till he would be TOO LATE: whose need is above limit");
        int[] limits = {1, 8, 9, 10, 17, 18, 19, 99};
        int[] due = {1, 1, 2, 2, 2, 3, 3, 12};
        for (int i = 0; i < limits.length; i++) {
            Checks.due("needs 9, limit " + limits[i], Checks.of("row 2 flight 72;" + one("a", 0, 9, limits[i], 5, 0, 0)).length(0), due[i]);
        }
        Checks.due("needs 1, limit 71", Checks.of("row 2 flight 72;" + one("a", 0, 1, 71, 5, 0, 0)).length(0), 72);
        Checks.due("needs 1, limit 72", Checks.of("row 2 flight 72;" + one("a", 0, 1, 72, 5, 0, 0)).length(0), -1);
        Checks.due("needs 0, limit 1", Checks.of("row 2 flight 72;" + one("a", 0, 0, 1, 5, 0, 0)).length(0), -1);
    }

    private static void lengthEnd() {
        Checks.edge(11, "NONE: not in this flight");
        PastSleep x = Checks.of("row 2 flight 5;" + one("a", 0, 2, 9, 5, 0, 0) + one("b", 1, 2, 11, 5, 0, 0));
        int[] a = {5, 4, 3, 2, 1, -1};
        for (int tick = 0; tick <= 5; tick++) {
            Checks.due("10 behind the last TICK, at " + tick, x.length(0), a[tick]);
            Checks.due("12 behind the end, at " + tick, x.length(1), -1);
            x.ticks(1);
        }
    }

    private static void lengthLate() {
        Checks.edge(11, "TICKS till he would be TOO LATE: one who is so");
        PastSleep x = Checks.of("row 2 flight 9;" + one("a", 0, 5, 10, 5, 0, 0));
        x.ticks(2);
        Checks.due("at the limit", x.length(0), 1);
        x.ticks(1);
        Checks.due("above it: again in 1", x.length(0), 1);
        x.ticks(5);
        Checks.due("the last TICK", x.length(0), 1);
        x.ticks(1);
        Checks.due("none is left", x.length(0), -1);
    }

    private static void lengthGrowth() {
        Checks.edge(11, "none going: ASLEEP or not, AISLE SHUT or not; a drinker's needs grow by twice his needs");
        Checks.due("drinker", Checks.of("row 2 flight 20;" + Checks.sitter("a", "drinker", 0, 5, 39, 1, 5, 30, 0, 9) + "belt 0 to 71;").length(0), 4);
        Checks.due("light", Checks.of("row 2 flight 20;" + Checks.sitter("a", "light", 0, 5, 39, 1, 5, 30, 0, 9)).length(0), 8);
    }

    private static void lengthOut() {
        Checks.edge(11, "TICKS till he would be TOO LATE: needs grow of all but those OUT");
        PastSleep x = Checks.of("row 2 flight 20;" + one("a", 0, 5, 10, 5, 0, 0) + "queue 3;");
        x.ticks(1);
        x.go(0, 0, 0);
        Checks.due("OUT for 4, then 3", x.length(0), 7);
        x.ticks(3);
        Checks.due("OUT for 1, then 3", x.length(0), 4);
        x.ticks(1);
        Checks.due("STANDS", x.length(0), 3);
        x = Checks.of("row 2 flight 8;" + one("a", 0, 5, 10, 5, 0, 0) + "queue 3;");
        x.ticks(1);
        x.go(0, 0, 0);
        Checks.due("as the flight ends", x.length(0), 7);
        x = Checks.of("row 2 flight 7;" + one("a", 0, 5, 10, 5, 0, 0) + "queue 3;");
        x.ticks(1);
        x.go(0, 0, 0);
        Checks.due("not in this flight", x.length(0), -1);
    }

    private static void ways(PastSleep x, int sitter, int ways, int due) {
        Checks.due("chance " + sitter + " " + ways, x.chance(sitter, ways, false), due);
        Checks.due("chance " + sitter + " " + ways + ", clean", x.chance(sitter, ways, true), due);
    }

    private static void waysOthers() {
        PastSleep x = two("");
        for (int far : FAR) {
            Checks.edge(14, "NONE: others");
            ways(x, far, 0, -1);
            Checks.edge(15, "(likewise) NONE: others");
            Checks.due("cost " + far, x.cost(far, 0), -1);
            Checks.edge(16, "(likewise) NONE: others");
            Checks.due("best " + far, x.best(far), -1);
        }
        Checks.edge(14, "NONE: others");
        ways(x, 2, 0, -1);
        ways(new PastSleep(), 0, 0, -1);
        Checks.edge(15, "(likewise) NONE: others");
        Checks.due("the third of two", x.cost(2, 0), -1);
        Checks.due("nobody", new PastSleep().cost(0, 0), -1);
        Checks.edge(16, "(likewise) NONE: others");
        Checks.due("the third of two", x.best(2), -1);
        Checks.due("nobody", new PastSleep().best(0), -1);
    }

    private static void waysBounds() {
        int[] powers = {9, 27, 81, 243};
        for (int seats = 2; seats <= 5; seats++) {
            PastSleep x = Checks.of("row " + seats + " flight 9;" + one("a", 0, 5, 60, 5, 0, 0));
            int all = powers[seats - 2];
            Checks.edge(14, "by WAYS: digits to the base of 3 by SEATS; NONE: others");
            ways(x, 0, 0, 10000);
            ways(x, 0, all - 1, 10000);
            for (int wrong : new int[] {-1, all, all + 1, Integer.MIN_VALUE, Integer.MAX_VALUE}) {
                ways(x, 0, wrong, -1);
            }
            Checks.edge(15, "by WAYS: digits to the base of 3 by SEATS; NONE: others");
            Checks.due("0", x.cost(0, 0), 0);
            Checks.due("the last", x.cost(0, all - 1), 0);
            for (int wrong : new int[] {-1, all, all + 1, Integer.MIN_VALUE, Integer.MAX_VALUE}) {
                Checks.due("ways " + wrong, x.cost(0, wrong), -1);
            }
        }
    }

    private static void himselfAsleep() {
        PastSleep x = Checks.of("row 3 flight 20;" + one("a", 0, 5, 60, 5, 0, 20) + one("b", 1, 5, 60, 4, 0, 20) + one("c", 2, 5, 60, 7, 0, 20)
            + "price 2 5 9 1;");
        Checks.edge(14, "of one (also of who is ASLEEP himself)");
        ways(x, 0, 0, 1800);
        ways(x, 1, 0, 3000);
        ways(x, 2, 0, 10000);
        Checks.edge(15, "(likewise: also of who is ASLEEP himself)");
        Checks.due("of a", x.cost(0, 0), 40000 + 9 * 8200);
        Checks.due("of b", x.cost(1, 0), 20000 + 9 * 7000);
        Checks.edge(16, "(likewise: also of who is ASLEEP himself)");
        Checks.due("of a: both climbed past for 15000 each", x.best(0), 12);
        Checks.due("of b", x.best(1), 9);
        Checks.due("of c", x.best(2), 0);
    }

    private static void outOrStanding() {
        PastSleep x = two("queue 1;");
        x.go(0, 3, 2);
        for (int left = 2; left > 0; left--) {
            Checks.edge(14, "NONE: he is OUT");
            ways(x, 0, 0, -1);
            Checks.edge(15, "NONE: he is OUT");
            Checks.due("OUT for " + left, x.cost(0, 0), -1);
            Checks.edge(16, "NONE: he is OUT");
            Checks.due("OUT for " + left, x.best(0), -1);
            x.ticks(1);
        }
        Checks.edge(14, "to get out, or back: of who STANDS");
        ways(x, 0, 0, 6000);
        Checks.edge(15, "COST of who STANDS");
        Checks.due("asked", x.cost(0, 0), 10000 + 4000);
        Checks.edge(16, "BEST WAYS of who STANDS");
        Checks.due("climbs", x.best(0), 3);
        Checks.edge(14, "that all asked wake: who is out is not in the way");
        PastSleep y = Checks.of("row 2 flight 20;" + one("a", 0, 5, 60, 5, 0, 0) + one("b", 1, 5, 60, 4, 1, 20));
        y.go(1, 0, 0);
        y.ticks(1);
        ways(y, 0, 0, 10000);
        y.back(1, 0, 0);
        ways(y, 0, 0, 6000);
    }

    private static void shutOrOver() {
        Checks.edge(14, "by WAYS now: though the AISLE is SHUT");
        PastSleep x = Checks.of("row 2 flight 2;" + one("a", 0, 5, 60, 5, 0, 0) + one("b", 1, 5, 60, 4, 0, 9) + "belt 0 to 1;wake 3+tick;");
        for (int tick = 0; tick <= 2; tick++) {
            Checks.due("SHUT at " + tick, x.chance(0, 0, false), 3000 + 1000 * tick);
            Checks.due("cost", x.cost(0, 0), 10000 + 7000 - 1000 * tick);
            Checks.due("best", x.best(0), 3);
            x.ticks(1);
        }
    }

    private static void chanceNone() {
        Checks.edge(14, "that all asked wake: none asked, none ahead");
        PastSleep x = five("");
        Checks.due("all climbed past", x.chance(0, 3 + 9 + 27 + 81, false), 10000);
        Checks.due("nobody nearer to the aisle", x.chance(4, 0, false), 10000);
        Checks.due("nor clean", x.chance(4, 0, true), 10000);
        x.go(0, 0, 31);
        Checks.due("all are awake", x.chance(1, 0, true), 10000);
    }

    private static void chanceFull() {
        Checks.edge(14, "that all asked wake, of ten thousand: four ahead");
        Checks.due(".9 * .8 * .7 * .6", five("").chance(0, 0, false), 3024);
        Checks.due("clean the same", five("").chance(0, 0, true), 3024);
        Checks.due(".1 each", five("wake 1;").chance(0, 0, false), 1);
        Checks.due("all surely", five("wake 10;").chance(0, 0, false), 10000);
        Checks.due(".9 * .7, the others climbed past", five("").chance(0, 9 + 81, false), 6300);
        Checks.due(".9 * .7 * .7 * .7 clean", five("").chance(0, 9 + 81, true), 3087);
        Checks.due(".7 ^ 4 clean", five("").chance(0, 3 + 9 + 27 + 81, true), 2401);
        Checks.due(".6 ^ 4 clean", five("").chance(0, 6 + 18 + 54 + 162, true), 1296);
    }

    private static void chanceZero() {
        Checks.edge(14, "that all asked wake: who never wakes");
        Checks.due("WAKING 0", five("wake 0;").chance(0, 0, false), 0);
        Checks.due("one of four", five("wake 10*not(depth=3);").chance(0, 0, false), 0);
        Checks.due("he is climbed past", five("wake 10*not(depth=3);").chance(0, 27, false), 10000);
        Checks.due("clean", five("wake 10*not(depth=3);").chance(0, 27, true), 7000);
    }

    private static void chanceClean() {
        Checks.edge(14, "CLEAN: that besides nobody is SPILT on");
        Checks.due("SPILLING 10", two("spill 10;").chance(0, 3, true), 0);
        Checks.due("SPILLING 10, well or ill", two("spill 10;").chance(0, 3, false), 10000);
        Checks.due("SPILLING 0", two("spill 0;").chance(0, 6, true), 10000);
        Checks.due("SPILLING 9", two("spill 9;").chance(0, 6, true), 1000);
        Checks.due("before the knees", two("spill 1+side*8;").chance(0, 3, true), 9000);
        Checks.due("over the armrests", two("spill 1+side*8;").chance(0, 6, true), 1000);
        Checks.due("asked: nobody can be SPILT on", two("spill 10;").chance(0, 0, true), 6000);
    }

    private static void chanceCut() {
        Checks.edge(14, "of ten thousand: the last of four places");
        Checks.due(".1 * .1 * .1 * .9", five("wake 1+8*(depth=4);spill 9;").chance(0, 0, false), 9);
        Checks.due(".1 clean each", five("spill 9;").chance(0, 3 + 9 + 27 + 81, true), 1);
    }

    private static void costNone() {
        Checks.edge(15, "COST: the price of asking for each asked: none");
        Checks.due("nobody ahead", five("price 99 99 99 99;").cost(4, 242), 0);
        PastSleep x = two("price 99 99 99 99;");
        x.go(0, 0, 2);
        x.ticks(1);
        Checks.due("awake", x.cost(0, 0), 0);
        Checks.due("prices of 0", two("price 0 0 0 99;").cost(0, 0), 0);
    }

    private static void costAsked() {
        Checks.edge(15, "in ten-thousandths: the price of asking for each asked");
        Checks.due("one", two("price 1 0 0 0;").cost(0, 0), 10000);
        Checks.due("four", five("price 3 0 0 0;").cost(0, 0), 120000);
        Checks.due("three", five("price 3 0 0 0;").cost(0, 27), 90000);
        Checks.due("as told, though none ever wakes", five("price 3 0 0 0;wake 0;").cost(0, 0), 120000);
        Checks.due("none", five("price 3 0 0 0;").cost(0, 3 + 9 + 27 + 81), 0);
    }

    private static void costSpilt() {
        Checks.edge(15, "of spilling by the odds");
        Checks.due("3 of ten", two("price 0 1 0 0;").cost(0, 3), 3000);
        Checks.due("4 of ten", two("price 0 1 0 0;").cost(0, 6), 4000);
        Checks.due("never", two("price 0 99 0 0;spill 0;").cost(0, 3), 0);
        Checks.due("surely", two("price 0 99 0 0;spill 10;").cost(0, 6), 990000);
        Checks.due("four", five("price 0 1 0 0;").cost(0, 3 + 18 + 27 + 162), 14000);
        Checks.due("asked: none", five("price 0 99 0 0;").cost(0, 0), 0);
    }

    private static void costVain() {
        Checks.edge(15, "of a TICK too late by the odds that it is in vain");
        Checks.due("4 of ten", two("price 0 0 1 0;").cost(0, 0), 4000);
        Checks.due("climbed past: never in vain", two("price 0 0 99 0;spill 10;").cost(0, 3), 0);
        Checks.due("always", two("price 0 0 7 0;wake 0;").cost(0, 0), 70000);
        Checks.due("never", two("price 0 0 7 0;wake 10;").cost(0, 0), 0);
        Checks.due("1 - .3024", five("price 0 0 1 0;").cost(0, 0), 6976);
        Checks.due("9999", five("price 0 0 1 0;wake 1;").cost(0, 0), 9999);
    }

    private static void costMost() {
        Checks.edge(15, "COST by WAYS: prices of 99");
        Checks.due("four asked for nothing", five("price 99 99 99 99;wake 0;").cost(0, 0), 4 * 990000 + 990000);
        Checks.due("four SPILT on surely", five("price 99 99 99 99;spill 10;").cost(0, 3 + 9 + 27 + 81), 4 * 990000);
    }

    private static void bestNone() {
        Checks.edge(16, "SEATS without a sleeper in the way 0");
        Checks.due("nobody ahead", five("spill 0;").best(4), 0);
        Checks.due("one ahead", five("spill 0;").best(3), 81);
        Checks.due("two ahead", five("spill 0;").best(2), 27 + 81);
        PastSleep x = five("spill 0;");
        x.go(2, 0, 31);
        Checks.due("c can't go: ASLEEP", x.sitter(2, 4), 0);
        x.go(0, 18 + 54 + 162, 31);
        Checks.due("b was woken: his SEAT is 0", x.best(1), 9 + 27 + 81);
        x.ticks(1);
        Checks.due("b is awake, a STANDS", x.best(0), 9 + 27 + 81);
        Checks.due("a SEAT without a sitter", Checks.of("row 3 flight 9;" + one("a", 0, 5, 60, 5, 0, 0) + one("c", 2, 5, 60, 5, 0, 9)).best(0), 9);
    }

    private static void bestFull() {
        Checks.edge(16, "the least COST: four ahead");
        Checks.due("climbed past before their knees", five("price 1 1 1 1;").best(0), 3 + 9 + 27 + 81);
        Checks.due("over their armrests", five("price 1 1 1 1;spill 3-side;").best(0), 6 + 18 + 54 + 162);
        Checks.due("asked", five("price 1 99 0 1;").best(0), 0);
        Checks.due("b, d before their knees, c, e over their armrests",
            five("price 9 1 9 1;spill (depth=2 or depth=4)*(5-side)+(depth=1 or depth=3)*(4+side);").best(0), 3 + 18 + 27 + 162);
        String both = "row 3 flight 9;" + one("a", 0, 5, 60, 5, 0, 0) + one("b", 1, 5, 60, 1, 0, 9) + one("c", 2, 5, 60, 8, 0, 9);
        Checks.due("asked for 10, b climbed past for 5 + 1, c for 5 + 8, both for 9", Checks.of(both + "price 5 10 0 1;spill depth;").best(0), 3);
        Checks.due("c alone", Checks.of(both.replace("depth 1", "depth 9").replace("depth 8", "depth 1") + "price 5 10 0 1;spill depth;").best(0), 9);
        Checks.due("e alone climbed past", five("price 1 9 0 1;spill 2-(depth=4);").best(0), 81);
    }

    private static void bestEqual() {
        Checks.edge(16, "of equal ones the least number");
        Checks.due("all for nothing", five("price 0 0 0 0;").best(0), 0);
        Checks.due("asking and SPILLING the same", five("price 1 1 0 1;spill 10;").best(0), 0);
        Checks.due("SPILLING 9 of ten is less", five("price 1 1 0 1;spill 9;").best(0), 3 + 9 + 27 + 81);
        Checks.due("both sides the same", two("price 9 1 9 1;spill 5;").best(0), 3);
        Checks.due("both sides for nothing", two("price 9 0 9 1;spill 5+side;").best(0), 3);
        String both = "row 3 flight 9;" + one("a", 0, 5, 60, 5, 0, 0) + one("b", 1, 5, 60, 5, 0, 9) + one("c", 2, 5, 60, 5, 0, 9);
        Checks.due("both asked for .75 * 8, one for 3 + .5 * 8, none for 3 + 3", Checks.of(both + "price 0 3 8 0;spill 10;").best(0), 0);
        Checks.due("SPILLING a bit less", Checks.of(both + "price 0 3 8 0;spill 10-(cup=1);cup 2;").best(0), 3 + 9);
    }

    private static void bestSides() {
        Checks.edge(16, "the least COST, of equal ones the least number: sides");
        Checks.due("armrests 1 less", two("price 9 1 9 1;spill 6-side;").best(0), 6);
        Checks.due("knees 1 less", two("price 9 1 9 1;spill 6+side;").best(0), 3);
        Checks.due("above 10 both are 10", two("price 99 1 99 1;spill 16-side;").best(0), 3);
        Checks.due("asked as dear as the armrests, cheaper than the knees", two("price 5 10 0 1;spill 6-side;").best(0), 0);
    }

    private static void bestWithVain() {
        Checks.edge(16, "the least COST: with the part in vain");
        Checks.due("10000 + 4 * 4000 = 26000 asked, 3 * 9000 climbed", two("price 1 9 4 1;").best(0), 0);
        Checks.due("10000 + 5 * 4000 = 30000 asked, 27000 climbed", two("price 1 9 5 1;").best(0), 3);
        Checks.due("10000 + 5 * 4000 = 30000 both", two("price 1 10 5 1;").best(0), 0);
    }

    private static void sideOthers() {
        Checks.edge(17, "NONE: others, not ASLEEP");
        PastSleep x = Checks.of("row 2 flight 9;" + one("a", 0, 5, 60, 5, 0, 0) + one("b", 1, 5, 60, 5, 1, 3));
        for (int far : FAR) {
            Checks.due("sitter " + far, x.side(far), -1);
        }
        Checks.due("the third of two", x.side(2), -1);
        Checks.due("nobody", new PastSleep().side(0), -1);
        int[] due = {-1, 0, 0, -1, -1};
        for (int tick = 0; tick < due.length; tick++) {
            Checks.due("asleep 1 to 3, at " + tick, x.side(1), due[tick]);
            Checks.due("never asleep", x.side(0), -1);
            x.ticks(1);
        }
        x = two("");
        x.go(0, 0, 2);
        Checks.due("woken", x.side(1), -1);
        x.ticks(4);
        Checks.due("ASLEEP again", x.side(1), 0);
        PastSleep y = Checks.of("row 2 flight 9;" + one("a", 0, 5, 60, 5, 1, 9));
        y.go(0, 0, 0);
        y.ticks(1);
        Checks.due("STANDS", y.side(0), -1);
    }

    private static void sideEqual() {
        Checks.edge(17, "the side on which SPILLING is less; of equal ones 0");
        Checks.due("equal", two("spill 5;").side(1), 0);
        Checks.due("1 less over the armrests", two("spill 5-side;").side(1), 1);
        Checks.due("1 more over the armrests", two("spill 5+side;").side(1), 0);
        Checks.due("not told: 3 and 4", two("").side(1), 0);
        Checks.due("with the flight", two("spill 5+side-side*2*(tick=1);").side(1), 0);
    }

    private static void sideBounded() {
        Checks.edge(17, "SPILLING, 0 below it, 10 above: of equal ones 0");
        Checks.due("12 and 11", two("spill 12-side;").side(1), 0);
        Checks.due("11 and 10", two("spill 11-side;").side(1), 0);
        Checks.due("10 and 9", two("spill 10-side;").side(1), 1);
        Checks.due("0 and below", two("spill 0-side;").side(1), 0);
        Checks.due("1 and 0", two("spill 1-side;").side(1), 1);
    }
}
