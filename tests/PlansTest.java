/** Promises 18 to 21: REGIME, FEWEST, BEFORE, STANDING. */
public final class PlansTest {
    private static final String BOB = "sitter bob plain at 1 needs 0 limit 30 goes 20 depth 4 legs 34 sleeps 0 to 72;";

    public static void main(String[] args) {
        regimes();
        regimeInVain();
        regimeCuts();
        regimeOthers();
        fewests();
        fewestBack();
        fewestShut();
        befores();
        standings();
        Checks.end();
    }

    private static String ann(int needs, int limit, String sleeps) {
        return "sitter ann plain at 0 needs " + needs + " limit " + limit + " goes 15 depth 3 legs 30 sleeps " + sleeps + ";";
    }

    private static void regimes() {
        PastSleep x = Checks.of("row 2 flight 3;" + ann(5, 14, "0 to 0"));
        Checks.due("15 is above 14 behind TICK 2, he goes ahead for nothing", x.regime(0, 0), 0);
        Checks.due("not yet", x.regime(0, 1), 0);
        x.ticks(2);
        Checks.due("now", x.regime(0, 1), 1);
        Checks.due("for nothing", x.regime(0, 0), 0);
        x = Checks.of("row 2 flight 3;" + ann(5, 15, "0 to 0"));
        x.ticks(2);
        Checks.due("waiting if equal", x.regime(0, 1), 0);
        x = Checks.of("row 2 flight 3;" + ann(5, 4, "0 to 0") + "price 1 1 7 1;belt 0 to 2;");
        Checks.due("SHUT: TOO LATE each TICK", x.regime(0, 0), 21000);
        Checks.due("SHUT: he waits", x.regime(0, 1), 0);
        x = Checks.of("row 2 flight 3;" + ann(5, 4, "0 to 2") + "price 1 1 7 1;");
        Checks.due("ASLEEP till TICK 2", x.regime(0, 0), 14000);
        Checks.due("ASLEEP now", x.regime(0, 1), 0);
        x = Checks.of("row 2 flight 4;" + ann(9, 8, "0 to 0") + "price 1 1 7 1;queue 2;");
        Checks.due("3 TICKS away, then again", x.regime(0, 0), 0);
        Checks.due("now", x.regime(0, 1), 1);
        x = Checks.of("row 2 flight 4;" + ann(9, 8, "0 to 0") + "price 1 1 7 1;belt 1 to 3;");
        Checks.due("back at TICK 1 even if it is SHUT, TOO LATE in 3", x.regime(0, 0), 21000);
        x = Checks.of("row 2 flight 4;" + ann(9, 8, "0 to 0") + "price 1 1 7 1;queue out+9;");
        Checks.due("away till the end", x.regime(0, 0), 0);
        x.ticks(4);
        Checks.due("over", x.regime(0, 0), 0);
        Checks.due("over", x.regime(0, 1), 0);
    }

    private static void regimeInVain() {
        // asked: 2000; 4 of ten in vain. At TICK 0 alone (1 TICK): 9000 too late if he waits.
        PastSleep x = Checks.of("row 2 flight 1;" + ann(5, 4, "0 to 0") + BOB + "price 2 9 9 1;spill 9;");
        Checks.due("2000 + .4 * 9000", x.regime(0, 0), 5600);
        Checks.due("he goes", x.regime(0, 1), 1);
        Checks.due("asks", x.best(0), 0);
        // two TICKS: he is back at TICK 1, having paid 2000 again, and goes again at once.
        x = Checks.of("row 2 flight 2;" + ann(5, 4, "0 to 0") + BOB + "price 2 9 9 1;spill 9;");
        Checks.due("2000 + .6 * (2000 + 5600) + .4 * (9000 + 5600)", x.regime(0, 0), 2000 + 4560 + 5840);
        Checks.due("he goes", x.regime(0, 1), 1);
        // climbing: surely through, 3 of ten spilt on.
        x = Checks.of("row 2 flight 1;" + ann(5, 4, "0 to 0") + BOB + "price 9 2 9 1;");
        Checks.due("climbs for 2000 * .3", x.regime(0, 0), 600);
        x = Checks.of("row 2 flight 1;" + ann(5, 4, "0 to 0") + BOB + "price 5 9 5 1;spill 9;");
        Checks.due("5000 + .4 * 5000 is dearer than 5000", x.regime(0, 0), 5000);
        Checks.due("he waits", x.regime(0, 1), 0);
    }

    private static void regimeCuts() {
        // Two ahead, both asked: .7 * .3 = .21.
        String cat = "sitter cat plain at 2 needs 0 limit 9 goes 9 depth 7 legs 30 sleeps 0 to 9;";
        String bob = BOB.replace("depth 4", "depth 3");
        PastSleep x = Checks.of("row 3 flight 1;" + ann(5, 4, "0 to 0") + bob + cat + "price 1 6 7 1;spill 10*(legs=30)+(depth=3);");
        Checks.due("bob climbed for 600, cat asked for 1000: .3", x.best(0), 3);
        Checks.due("1600 + .7 * 7000", x.regime(0, 0), 6500);
        x = Checks.of("row 3 flight 1;" + ann(5, 4, "0 to 0") + bob + cat + "price 0 1 1 1;spill 9;");
        Checks.due("both asked for nothing", x.best(0), 0);
        Checks.due(".79 * 1000", x.regime(0, 0), 790);
        x = Checks.of("row 3 flight 2;" + ann(5, 4, "0 to 0") + bob + cat + "price 0 9 1 1;");
        Checks.due(".21 * 790 + .79 * 1790 = 1580", x.regime(0, 0), 1580);
        x = Checks.of("row 3 flight 3;" + ann(5, 9, "0 to 0") + bob + cat + "price 0 9 1 1;");
        // At 2: 790 with need 10 or 5, 0 with need 0. At 1: .79 * 1790 = 1414 with need 5, .79 * 790 = 624 with need 0.
        Checks.due("three TICKS: .21 * 624 + .79 * 1414", x.regime(0, 0), 1248);
        Checks.due("he goes", x.regime(0, 1), 1);
    }

    private static void regimeOthers() {
        PastSleep x = Checks.of("row 2 flight 9;" + ann(5, 14, "0 to 0") + BOB);
        Checks.due("nobody", x.regime(2, 0), -1);
        Checks.due("nobody", x.regime(-1, 0), -1);
        Checks.due("what 2", x.regime(0, 2), -1);
        Checks.due("what -1", x.regime(0, -1), -1);
        Checks.due("fewest of nobody", x.fewest(2, 0), -1);
        Checks.due("fewest of nobody", x.fewest(-1, 0), -1);
        Checks.due("fewest what 2", x.fewest(0, 2), -1);
        Checks.due("fewest what -1", x.fewest(0, -1), -1);
        x.go(0, 0, 3);
        Checks.due("OUT", x.regime(0, 0), -1);
        Checks.due("OUT", x.fewest(0, 0), -1);
        x.ticks(1);
        Checks.due("STANDS", x.regime(0, 1), -1);
        Checks.due("STANDS", x.fewest(0, 1), -1);
    }

    private static void fewests() {
        PastSleep x = Checks.of("row 2 flight 9;" + ann(1, 9, "0 to 0") + BOB);
        Checks.due("need 9 at the end", x.fewest(0, 0), 0);
        Checks.due("he need not go", x.fewest(0, 1), -1);
        x = Checks.of("row 2 flight 10;" + ann(1, 9, "0 to 0") + BOB);
        Checks.due("away as the flight ends", x.fewest(0, 0), 1);
        Checks.due("the last TICK", x.fewest(0, 1), 9);
        x = Checks.of("row 2 flight 9;" + ann(2, 9, "0 to 0") + BOB);
        Checks.due("once out, once in, need 8 at the end", x.fewest(0, 0), 2);
        Checks.due("4 waits, then he must", x.fewest(0, 1), 4);
        x = Checks.of("row 2 flight 12;" + ann(2, 9, "0 to 0") + BOB);
        Checks.due("at 4 and 9, and in again twice", x.fewest(0, 0), 4);
        x.ticks(2);
        x.go(0, 0, 3);
        x.ticks(1);
        x.back(0, 0, 3);
        Checks.due("bob was woken at TICK 2: awake till 5", x.sitter(0, 2), 0);
        Checks.due("9 TICKS left, need 2 each: again at TICK 7", x.fewest(0, 0), 2);
        Checks.due("at TICK 7", x.fewest(0, 1), 7);
        x = Checks.of("row 2 flight 12;" + ann(5, 4, "0 to 0") + BOB);
        Checks.due("goes each TICK", x.fewest(0, 0), 23);
        Checks.due("at once", x.fewest(0, 1), 0);
        x = Checks.of("row 2 flight 3;" + ann(5, 4, "0 to 1") + BOB);
        Checks.due("ASLEEP himself: it can't be", x.fewest(0, 0), -1);
        Checks.due("it can't be", x.fewest(0, 1), -1);
        x = Checks.of("row 2 flight 12;" + ann(2, 9, "0 to 0"));
        Checks.due("nobody ahead: nobody woken", x.fewest(0, 0), 0);
        Checks.due("waiting is TOO LATE, so he goes at 4", x.fewest(0, 1), 4);
        x.ticks(12);
        Checks.due("over", x.fewest(0, 0), 0);
        Checks.due("over", x.fewest(0, 1), -1);
    }

    private static void fewestBack() {
        String bob = BOB.replace("0 to 72", "3 to 5");
        PastSleep x = Checks.of("row 2 flight 10;" + ann(2, 9, "0 to 0") + bob);
        Checks.due("goes at 0 to 1, again by 5 or 6: nobody is woken", x.fewest(0, 0), 0);
        x = Checks.of("row 2 flight 10;" + ann(3, 12, "0 to 0") + BOB.replace("0 to 72", "4 to 5"));
        Checks.due("4 waits at most", x.fewest(0, 0), 0);
        x = Checks.of("row 2 flight 6;" + ann(3, 9, "0 to 0") + BOB.replace("0 to 72", "2 to 4"));
        Checks.due("goes at 1 and comes back at 2: 1 woken; at 3: 1 woken", x.fewest(0, 0), 0);
        Checks.due("back at 1, then need 9 at 4, goes at 5 at the latest", x.fewest(0, 1), 0);
        x = Checks.of("row 2 flight 9;" + ann(3, 9, "0 to 0") + BOB.replace("0 to 72", "0 to 4") + "queue 3;");
        Checks.due("back at 4 if he goes at 0: 1; later: 1", x.fewest(0, 0), 1);
        Checks.due("waiting if equal: TICK 3", x.fewest(0, 1), 3);
    }

    private static void fewestShut() {
        PastSleep x = Checks.of("row 2 flight 6;" + ann(3, 9, "0 to 0") + BOB + "belt 3 to 3;");
        Checks.due("at 2 or it is TOO LATE", x.fewest(0, 1), 2);
        Checks.due("out and in, need 9 at the end", x.fewest(0, 0), 2);
        x = Checks.of("row 2 flight 6;" + ann(3, 9, "0 to 0") + BOB + "belt 0 to 4;");
        Checks.due("it can't be", x.fewest(0, 0), -1);
        x = Checks.of("row 2 flight 5;" + ann(3, 9, "0 to 0") + BOB + "belt 0 to 2;trolley 4 to 5;");
        Checks.due("goes at 3, back at 4 though it is SHUT", x.fewest(0, 0), 2);
    }

    private static void befores() {
        PastSleep x = Checks.of("row 2 flight 12;" + ann(5, 20, "0 to 0") + BOB + "belt 4 to 5;trolley 11 to 12;");
        Checks.due("need 20 at TICK 4, but it is SHUT", x.before(0), 3);
        Checks.due("no needs: the last but one", x.before(1), 10);
        Checks.due("nobody", x.before(2), -1);
        Checks.due("nobody", x.before(-1), -1);
        x.ticks(3);
        Checks.due("this one", x.before(0), 3);
        x.ticks(1);
        Checks.due("none", x.before(0), -1);
        x.ticks(7);
        Checks.due("SHUT till the end", x.before(1), -1);
        x.ticks(1);
        Checks.due("over", x.before(1), -1);
        x = Checks.of("row 2 flight 12;" + ann(5, 20, "0 to 12"));
        Checks.due("ASLEEP or not", x.before(0), 4);
        x = Checks.of("row 2 flight 12;" + ann(5, 20, "0 to 0") + "queue 2;");
        x.go(0, 0, 0);
        Checks.due("OUT for 3, then 4 more", x.before(0), 7);
    }

    private static void standings() {
        String bob = BOB.replace("0 to 72", "0 to 6");
        PastSleep x = Checks.of("row 2 flight 30;" + ann(5, 20, "0 to 0") + bob + "price 4 9 0 1;spill 9;");
        Checks.due("in his SEAT", x.standing(0), -1);
        x.go(0, 3, 2);
        Checks.due("OUT", x.standing(0), -1);
        x.ticks(1);
        Checks.due("4 TICKS of 1 or asking for 4 now: now", x.standing(0), 0);
        x.ticks(2);
        Checks.due("bob wakes at 6: 3 TICKS", x.standing(0), 3);
        Checks.due("nobody", x.standing(2), -1);
        Checks.due("nobody", x.standing(-1), -1);
        x.ticks(3);
        Checks.due("awake", x.standing(0), 0);
        x = Checks.of("row 2 flight 30;" + ann(5, 20, "0 to 0") + bob + "price 4 9 0 0;spill 9;belt 1 to 12;");
        x.go(0, 3, 2);
        x.ticks(1);
        Checks.due("SHUT till 12", x.standing(0), 12);
        x = Checks.of("row 2 flight 30;" + ann(5, 20, "0 to 0") + bob + "price 4 9 0 0;spill 9;belt 1 to 13;");
        x.go(0, 3, 2);
        x.ticks(1);
        Checks.due("SHUT for 13", x.standing(0), -1);
        x = Checks.of("row 2 flight 5;" + ann(5, 20, "0 to 0") + BOB + "price 4 9 0 0;spill 9;belt 1 to 3;");
        x.go(0, 3, 2);
        x.ticks(1);
        Checks.due("the last TICK", x.standing(0), 3);
        x.ticks(4);
        Checks.due("over", x.standing(0), -1);
        x = Checks.of("row 2 flight 30;" + ann(5, 20, "0 to 0") + BOB + "price 4 9 9 0;spill 9-tick;wake tick;");
        x.go(0, 3, 2);
        x.ticks(1);
        Checks.due("climbing at 9 is for nothing", x.standing(0), 8);
    }
}
