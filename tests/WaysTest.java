/** Promises 11, 14 to 17: LENGTH, CHANCE, COST, BEST WAYS, SIDE. */
public final class WaysTest {
    private static final String ROW = "row 4 flight 12;";
    private static final String ANN = "sitter ann plain at 0 needs 5 limit 20 goes 15 depth 3 legs 30 sleeps 0 to 0;";
    private static final String BOB = "sitter bob plain at 1 needs 0 limit 30 goes 20 depth 4 legs 34 sleeps 0 to 9;";
    private static final String CAT = "sitter cat plain at 3 needs 3 limit 3 goes 9 depth 7 legs 30 sleeps 0 to 5;";
    private static final String CABIN = ROW + ANN + BOB + CAT + "price 2 5 9 1;";

    public static void main(String[] args) {
        lengths();
        chances();
        costs();
        bests();
        ties();
        sides();
        others();
        Checks.end();
    }

    private static void lengths() {
        PastSleep x = Checks.of(CABIN);
        Checks.due("20 is not above 20", x.length(0), 5);
        Checks.due("no needs", x.length(1), -1);
        Checks.due("above 3 in 2", x.length(2), 2);
        Checks.due("nobody", x.length(3), -1);
        Checks.due("nobody", x.length(-1), -1);
        x.ticks(3);
        Checks.due("TOO LATE already: the next TICK", x.length(2), 1);
        Checks.due("ann", x.length(0), 2);
        x.go(0, 0, 15);
        Checks.due("ann is OUT for a TICK", x.length(0), 6);
        x.ticks(4);
        Checks.due("ann stands", x.length(0), 2);
        x.ticks(4);
        Checks.due("the last TICK", x.length(0), 1);
        x.ticks(1);
        Checks.due("no TICK is left", x.length(0), -1);
        Checks.due("in this flight", Checks.of("row 2 flight 5;" + ANN).length(0), 5);
        Checks.due("not in this flight", Checks.of("row 2 flight 4;" + ANN).length(0), -1);
    }

    private static void chances() {
        PastSleep x = Checks.of(CABIN);
        Checks.due("both asked: .6 * .3", x.chance(0, 0, false), 1800);
        Checks.due("clean the same", x.chance(0, 0, true), 1800);
        Checks.due("bob climbed", x.chance(0, 3, false), 3000);
        Checks.due("bob climbed, clean: .7 * .3", x.chance(0, 3, true), 2100);
        Checks.due("bob over the armrests: .6 * .3", x.chance(0, 6, true), 1800);
        Checks.due("both climbed", x.chance(0, 3 + 54, false), 10000);
        Checks.due("both climbed, clean: .7 * .6", x.chance(0, 3 + 54, true), 4200);
        Checks.due("digits of others are nothing", x.chance(0, 2 + 3 + 9 + 54, true), 4200);
        Checks.due("of who is ASLEEP", x.chance(1, 0, false), 3000);
        Checks.due("nobody ahead", x.chance(2, 0, true), 10000);
        x.go(0, 0, 15);
        Checks.due("he is OUT", x.chance(0, 0, false), -1);
        x.ticks(1);
        Checks.due("he STANDS, both are awake", x.chance(0, 0, false), 10000);
        x.ticks(3);
        Checks.due("both sleep again", x.chance(0, 0, false), 1800);
        x.ticks(1);
        Checks.due("cat's time is over", x.chance(0, 0, false), 6000);
    }

    private static void costs() {
        PastSleep x = Checks.of(CABIN);
        Checks.due("two asked, 8200 in vain", x.cost(0, 0), 2 * 20000 + 9 * 8200);
        Checks.due("bob climbed: 3 of ten", x.cost(0, 3), 20000 + 15000 + 9 * 7000);
        Checks.due("bob over the armrests: 4 of ten", x.cost(0, 6), 20000 + 20000 + 9 * 7000);
        Checks.due("both climbed", x.cost(0, 3 + 27), 30000);
        Checks.due("nobody ahead", x.cost(2, 80), 0);
        Checks.due("of who is ASLEEP", x.cost(1, 0), 20000 + 9 * 7000);
    }

    private static void bests() {
        PastSleep x = Checks.of(CABIN);
        Checks.due("climb before the knees", x.best(0), 3 + 27);
        Checks.due("of who is ASLEEP", x.best(1), 27);
        Checks.due("nobody ahead", x.best(2), 0);
        x = Checks.of(ROW + ANN + BOB + CAT + "spill 9-side*2;price 2 5 9 1;");
        Checks.due("bob: 20000 + 9 * 4000 asked, 35000 climbed; cat climbed", x.best(0), 6 + 54);
        x = Checks.of(ROW + ANN + BOB + CAT + "spill 9;price 1 5 3 1;");
        Checks.due("asks both: 20000 + 3 * 8200, one: 10000 + 3 * 7000 + 45000", x.best(0), 0);
        x = Checks.of(ROW + ANN + BOB + CAT + "spill depth;price 1 2 5 1;");
        Checks.due("bob climbed at 8000, cat at 14000", x.best(0), 3 + 27);
        x = Checks.of(ROW + ANN + BOB + CAT + "spill depth*2-4;price 1 2 5 1;");
        Checks.due("bob climbed at 8000, cat asked at 45000 or climbed at 20000", x.best(0), 3 + 27);
        x = Checks.of(ROW + ANN + BOB + CAT + "spill depth*2-4;price 1 9 5 1;wake depth*2-5;");
        Checks.due("bob climbed 36000 or asked 10000 + 35000; cat asked", x.best(0), 3);
    }

    private static void ties() {
        PastSleep x = Checks.of(ROW + ANN + BOB + CAT + "price 0 0 0 0;");
        Checks.due("all cost nothing: the least number", x.best(0), 0);
        x = Checks.of(ROW + ANN + BOB + CAT + "price 1 0 0 0;");
        Checks.due("both sides cost nothing", x.best(0), 3 + 27);
        x = Checks.of(ROW + ANN + BOB + CAT + "price 1 1 0 0;spill 10;");
        Checks.due("asking and climbing cost the same", x.best(0), 0);
        x = Checks.of(ROW + ANN + BOB + "price 1 2 0 0;spill 5;");
        Checks.due("the same, one ahead", x.best(0), 0);
    }

    private static void sides() {
        PastSleep x = Checks.of(CABIN);
        Checks.due("3 before, 4 over", x.side(1), 0);
        Checks.due("not ASLEEP", x.side(0), -1);
        Checks.due("nobody", x.side(3), -1);
        Checks.due("nobody", x.side(-1), -1);
        x = Checks.of(ROW + ANN + BOB + CAT + "spill 5-side;");
        Checks.due("less over the armrests", x.side(1), 1);
        x = Checks.of(ROW + ANN + BOB + CAT + "spill 5-(side=1)*2;");
        Checks.due("side is 0 or 1", x.side(1), 1);
        x = Checks.of(ROW + ANN + BOB + CAT + "spill 15-side;");
        Checks.due("10 and 10", x.side(1), 0);
        x = Checks.of(ROW + ANN + BOB + CAT + "spill legs-gap*3+(depth<5)*(4-side*2);");
        Checks.due("34-33+4 and 34-33+2", x.side(1), 1);
        x.go(0, 0, 15);
        Checks.due("woken", x.side(1), -1);
    }

    private static void others() {
        PastSleep x = Checks.of(CABIN);
        for (int who : new int[] {-1, 3, 5}) {
            Checks.due("chance of nobody", x.chance(who, 0, false), -1);
            Checks.due("cost of nobody", x.cost(who, 0), -1);
            Checks.due("best of nobody", x.best(who), -1);
        }
        Checks.due("ways 81", x.chance(0, 81, false), -1);
        Checks.due("ways 80", x.chance(0, 80, false), 10000);
        Checks.due("ways -1", x.chance(0, -1, true), -1);
        Checks.due("cost ways 81", x.cost(0, 81), -1);
        Checks.due("cost ways -1", x.cost(0, -1), -1);
        x.go(0, 0, 15);
        Checks.due("cost, he is OUT", x.cost(0, 0), -1);
        Checks.due("best, he is OUT", x.best(0), -1);
        x.ticks(1);
        Checks.due("cost, he STANDS", x.cost(0, 0), 0);
        Checks.due("best, he STANDS", x.best(0), 0);
    }
}
