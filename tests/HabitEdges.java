/** The edges of promises 22 to 25 and 31: HABITS, SEATED, AISLE, BEER, FLIGHTS. */
public final class HabitEdges {
    private static final int[] FAR = {Integer.MIN_VALUE, -3, -2, 5, 6, 31, 32, 72, 1 << 30, Integer.MAX_VALUE};

    public static void main(String[] args) {
        habitsOthers();
        habitsOfNobody();
        goesAtLeast();
        lastTick();
        shutGoing();
        shutComing();
        asleepStays();
        behindTheQueue();
        queueOut();
        aisleToWindow();
        nearerFirst();
        backAheadOfGoing();
        allAsleepAhead();
        awakeFourTicks();
        overByThen();
        pence();
        fromTheBeginning();
        seatedOthers();
        seatedOne();
        seatedFive();
        seatedEqual();
        seatedPence();
        seatedSeats();
        aisleOthers();
        aisleHimself();
        aisleBelow();
        aisleAbove();
        aisleNearest();
        aisleIsEmpty();
        beerOthers();
        beerNine();
        beerDrinker();
        beerBelow();
        flightsOthers();
        flightsBounds();
        flightsDraw();
        flightsGoOn();
        flightsFeigner();
        flightsOrder();
        flightsVain();
        flightsShut();
        flightsBegin();
        Checks.end();
    }

    private static String sitter(String name, int seat, int needs, int goes, int from, int to) {
        return Checks.sitter(name, "plain", seat, needs, 99, goes, 5, 30, from, to);
    }

    private static String row(int seats, int flight) {
        return "row " + seats + " flight " + flight + ";";
    }

    private static void habits(PastSleep x, int who, int... due) {
        for (int what = 0; what < 3; what++) {
            Checks.due("habits " + who + " " + what, x.habits(who, what), due[what]);
        }
    }

    private static void habitsOthers() {
        Checks.edge(22, "HABITS, sitter NONE: .. else of one; NONE: others");
        PastSleep x = Checks.of(row(2, 9) + sitter("a", 0, 4, 8, 0, 0));
        for (int what = 0; what <= 2; what++) {
            Checks.due("the second of one", x.habits(1, what), -1);
            Checks.due("of nobody", new PastSleep().habits(0, what), -1);
            for (int far : FAR) {
                Checks.due("sitter " + far, x.habits(far, what), -1);
            }
        }
        for (int far : new int[] {Integer.MIN_VALUE, -1, 3, Integer.MAX_VALUE}) {
            Checks.due("what " + far, x.habits(-1, far), -1);
            Checks.due("of one, what " + far, x.habits(0, far), -1);
        }
        Checks.due("the one", x.habits(0, 0), 3);
    }

    private static void habitsOfNobody() {
        Checks.edge(22, "WAKINGS, TOO LATE in all: nobody");
        habits(new PastSleep(), -1, 0, 0, 0);
        habits(Checks.of(row(5, 72) + "cup 1;price 99 99 99 99;"), -1, 0, 0, 0);
    }

    private static void goesAtLeast() {
        Checks.edge(22, "whose need is goes at least");
        int[] goes = {1, 4, 5, 8, 9, 12, 13, 99};
        int[] due = {3, 3, 2, 2, 1, 1, 1, 0};
        for (int i = 0; i < goes.length; i++) {
            Checks.due("needs 4, goes " + goes[i], Checks.of(row(2, 6) + sitter("a", 0, 4, goes[i], 0, 0)).habits(0, 0), due[i]);
        }
        Checks.due("needs 0, goes 1", Checks.of(row(2, 72) + sitter("a", 0, 0, 1, 0, 0)).habits(0, 0), 0);
    }

    private static void lastTick() {
        Checks.edge(22, "each TICK: the last one, not the one behind it");
        Checks.due("at 2, the last", Checks.of(row(2, 3) + sitter("a", 0, 4, 8, 0, 0)).habits(0, 0), 1);
        Checks.due("2 is behind it", Checks.of(row(2, 2) + sitter("a", 0, 4, 8, 0, 0)).habits(0, 0), 0);
        Checks.due("at 71", Checks.of(row(2, 72) + sitter("a", 0, 1, 71, 0, 0)).habits(0, 0), 1);
        Checks.due("72 is behind it", Checks.of(row(2, 72) + sitter("a", 0, 1, 72, 0, 0)).habits(0, 0), 0);
        Checks.due("never at 0: no need", Checks.of(row(2, 1) + sitter("a", 0, 9, 1, 0, 0)).habits(0, 0), 0);
    }

    private static void shutGoing() {
        Checks.edge(22, "the AISLE not SHUT, goes");
        Checks.due("2 is SHUT: at 3", Checks.of(row(2, 4) + sitter("a", 0, 4, 8, 0, 0) + "belt 2 to 2;").habits(0, 0), 1);
        Checks.due("2 to 3 are", Checks.of(row(2, 4) + sitter("a", 0, 4, 8, 0, 0) + "belt 2 to 3;").habits(0, 0), 0);
        Checks.due("1 and 3 are", Checks.of(row(2, 4) + sitter("a", 0, 4, 8, 0, 0) + "belt 1 to 1;trolley 3 to 3;").habits(0, 0), 1);
    }

    private static void shutComing() {
        Checks.edge(22, "waking those who are ASLEEP ahead of him then (even if it is SHUT)");
        String ab = sitter("a", 0, 4, 8, 0, 0) + sitter("b", 1, 0, 9, 3, 9);
        habits(Checks.of(row(2, 4) + ab + "belt 3 to 3;"), 1, 0, 1, 0);
        habits(Checks.of(row(2, 4) + ab), 1, 0, 1, 0);
        habits(Checks.of(row(2, 3) + ab), 1, 0, 0, 0);
        Checks.due("back at 3, goes at 7, the first open", Checks.of(row(2, 8) + ab + "belt 3 to 6;").habits(0, 0), 2);
    }

    private static void asleepStays() {
        Checks.edge(22, "who is not OUT, not ASLEEP");
        Checks.due("ASLEEP till 4", Checks.of(row(2, 5) + sitter("a", 0, 4, 8, 0, 4)).habits(0, 0), 1);
        Checks.due("till 5", Checks.of(row(2, 5) + sitter("a", 0, 4, 8, 0, 5)).habits(0, 0), 0);
        Checks.due("from 2", Checks.of(row(2, 5) + sitter("a", 0, 4, 8, 2, 5)).habits(0, 0), 0);
        Checks.due("from 3", Checks.of(row(2, 5) + sitter("a", 0, 4, 8, 3, 5)).habits(0, 0), 1);
        Checks.edge(22, "not ASLEEP: woken by another's going ahead of his own");
        // b goes at 2 past nobody; a, by the window, at 2 wakes c; c's need is 9 at 3
        String abc = sitter("a", 0, 4, 8, 0, 0) + sitter("c", 1, 3, 9, 0, 9);
        habits(Checks.of(row(2, 4) + abc), 1, 1, 1, 0);
        habits(Checks.of(row(2, 3) + abc), 1, 0, 1, 0);
    }

    private static void behindTheQueue() {
        Checks.edge(22, "he is back in his SEAT behind 1 TICK and the queue's");
        Checks.due("goes at 1, 3, 5", Checks.of(row(2, 6) + sitter("a", 0, 4, 4, 0, 0)).habits(0, 0), 3);
        Checks.due("goes at 1, 4", Checks.of(row(2, 6) + sitter("a", 0, 4, 4, 0, 0) + "queue 1;").habits(0, 0), 2);
        Checks.due("goes at 1, 4, 7", Checks.of(row(2, 8) + sitter("a", 0, 4, 4, 0, 0) + "queue 1;").habits(0, 0), 3);
        Checks.due("back at 11", Checks.of(row(2, 12) + sitter("a", 0, 4, 4, 0, 0) + "queue 9;").habits(0, 0), 1);
        Checks.due("goes at 12", Checks.of(row(2, 13) + sitter("a", 0, 4, 4, 0, 0) + "queue 99;").habits(0, 0), 2);
        Checks.due("by the TICK: 1, 4, back at 9", Checks.of(row(2, 10) + sitter("a", 0, 4, 4, 0, 0) + "queue tick;").habits(0, 0), 2);
        Checks.due("by the TICK: 1, 4, 10", Checks.of(row(2, 11) + sitter("a", 0, 4, 4, 0, 0) + "queue tick;").habits(0, 0), 3);
        Checks.edge(22, "then it passes as told: needs of those OUT do not grow");
        Checks.due("5 OUT, then 4, 8, 12", Checks.of(row(2, 10) + sitter("a", 0, 4, 8, 0, 0).replace("limit 99", "limit 7") + "queue 4;belt 7 to 9;").habits(0, 2), 1 + 2);
    }

    private static void queueOut() {
        Checks.edge(22, "the queue's: out counted ahead of him");
        String two = sitter("a", 0, 4, 8, 0, 0) + sitter("b", 1, 4, 8, 0, 0);
        PastSleep x = Checks.of(row(2, 14) + two + "queue out*9;");
        Checks.due("a goes at 2, back at 12", x.habits(0, 0), 1);
        Checks.due("b goes at 2, back at 3, goes at 5", x.habits(1, 0), 2);
        x = Checks.of(row(2, 15) + two + "queue out*9;");
        Checks.due("a goes at 14", x.habits(0, 0), 2);
    }

    private static void aisleToWindow() {
        Checks.edge(22, "from the aisle to the window");
        PastSleep x = Checks.of(row(5, 14) + sitter("a", 4, 4, 8, 0, 0) + sitter("b", 0, 4, 8, 0, 0) + sitter("c", 2, 4, 8, 0, 0) + "queue out*5;");
        // a OUT for 1, c for 6, b for 10; a back at 3, goes at 5 as two are OUT: for 10
        Checks.due("a at 2, 5", x.habits(0, 0), 2);
        Checks.due("c at 2, back at 8, at 10", x.habits(2, 0), 2);
        Checks.due("b at 2, back at 12", x.habits(1, 0), 1);
    }

    private static void nearerFirst() {
        Checks.edge(22, "as that TICK begins (those nearer to the aisle first ..)");
        String two = sitter("a", 0, 4, 8, 0, 0) + sitter("b", 1, 4, 8, 3, 9);
        habits(Checks.of(row(2, 4) + two), 1, 1, 1, 0);
        habits(Checks.of(row(2, 3) + two), 1, 1, 0, 0);
        String three = sitter("c", 2, 4, 8, 3, 9) + sitter("b", 1, 4, 8, 3, 9) + sitter("a", 0, 4, 8, 0, 0);
        PastSleep x = Checks.of(row(3, 4) + three);
        Checks.due("c is woken by b, then awake", x.habits(0, 1), 1);
        Checks.due("b is woken by a", x.habits(1, 1), 1);
        Checks.due("a is not", x.habits(2, 1), 0);
    }

    private static void backAheadOfGoing() {
        Checks.edge(22, "(.. all ahead of who goes)");
        String two = sitter("a", 0, 4, 8, 0, 0) + sitter("b", 1, 8, 8, 2, 9);
        habits(Checks.of(row(2, 3) + two), 1, 1, 1, 0);
        Checks.due("who came back is not out: a for 1, at 4 again", Checks.of(row(2, 5) + sitter("a", 0, 4, 8, 0, 0) + sitter("b", 1, 8, 8, 2, 2)
            + "queue out*9;belt 4 to 9;").habits(0, 2), 0);
        // b is OUT at 1, back at 2; a goes at 2 as none is out, is back at 3; goes at 5
        PastSleep x = Checks.of(row(2, 6) + sitter("a", 0, 4, 8, 0, 0) + sitter("b", 1, 8, 8, 2, 9) + "queue out*9;");
        Checks.due("a at 2, 5", x.habits(0, 0), 2);
    }

    private static void allAsleepAhead() {
        Checks.edge(22, "all ASLEEP ahead of him are woken");
        StringBuilder five = new StringBuilder(row(5, 3) + sitter("a", 0, 4, 8, 0, 0));
        for (int seat = 1; seat < 5; seat++) {
            five.append(sitter("n" + (char) ('a' + seat), seat, 0, 99, seat == 3 ? 3 : 0, 9));
        }
        PastSleep x = Checks.of(five.toString());
        habits(x, -1, 3, 0, 3);
        int[] due = {0, 1, 1, 0, 1};
        for (int i = 0; i < 5; i++) {
            Checks.due("was woken " + i, x.habits(i, 1), due[i]);
        }
        Checks.edge(22, "ahead of him: not those by the window, not himself");
        habits(Checks.of(row(2, 9) + sitter("a", 1, 4, 8, 0, 0) + sitter("b", 0, 0, 99, 0, 9)), -1, 0, 0, 0);
        Checks.edge(22, "all ASLEEP ahead of him are woken, whatever WAKING is");
        habits(Checks.of(row(2, 3) + sitter("a", 0, 4, 8, 0, 0) + sitter("b", 1, 0, 99, 0, 9) + "wake 0;"), -1, 1, 0, 1);
    }

    private static void awakeFourTicks() {
        Checks.edge(22, "not woken in this TICK or the three ahead");
        String two = sitter("a", 0, 4, 4, 0, 0) + sitter("b", 1, 0, 99, 0, 72);
        int[] due = {0, 0, 1, 1, 1, 1, 2, 2, 2, 2, 3};
        for (int flight = 1; flight < due.length; flight++) {
            Checks.due("a goes at 1, 3, 5 ..; flight " + flight, Checks.of(row(2, flight) + two).habits(1, 1), due[flight]);
        }
    }

    private static void overByThen() {
        Checks.edge(22, "as that TICK begins: not behind the last one");
        String two = sitter("a", 0, 4, 8, 0, 0) + sitter("b", 1, 0, 99, 3, 9);
        habits(Checks.of(row(2, 3) + two), -1, 0, 0, 0);
        habits(Checks.of(row(2, 4) + two), -1, 1, 0, 1);
        habits(Checks.of(row(2, 5) + two + "queue 2;"), -1, 0, 0, 0);
        habits(Checks.of(row(2, 6) + two + "queue 2;"), -1, 1, 0, 1);
    }

    private static void pence() {
        Checks.edge(22, "PENCE: the price of asking for each waking, that of a TICK too late for each");
        String two = sitter("a", 0, 4, 8, 0, 0) + sitter("b", 1, 4, 99, 0, 9).replace("limit 99", "limit 7");
        habits(Checks.of(row(2, 5) + two + "price 10 99 7 99;"), -1, 1, 4, 38);
        habits(Checks.of(row(2, 5) + two + "price 0 99 7 99;"), -1, 1, 4, 28);
        habits(Checks.of(row(2, 5) + two + "price 10 99 0 99;"), -1, 1, 4, 10);
        habits(Checks.of(row(2, 5) + two), -1, 1, 4, 5);
        habits(Checks.of(row(2, 72) + sitter("a", 0, 9, 1, 0, 72).replace("limit 99", "limit 1") + "price 99 99 99 99;"), -1, 0, 72, 72 * 99);
    }

    private static void fromTheBeginning() {
        Checks.edge(22, "HABITS: from the beginning, by told SEATS");
        PastSleep x = Checks.of(row(2, 9) + sitter("a", 0, 4, 8, 0, 0) + sitter("b", 1, 4, 99, 0, 9));
        int[] due = {x.habits(-1, 0), x.habits(0, 0), x.habits(1, 1)};
        x.ticks(2);
        x.go(0, 0, 2);
        x.ticks(7);
        String ahead = Look.at(x);
        Checks.due("wakings", x.habits(-1, 0), due[0]);
        Checks.due("went", x.habits(0, 0), due[1]);
        Checks.due("was woken", x.habits(1, 1), due[2]);
        x.seated(-1);
        Checks.aisle(x, 0);
        Checks.beer(x, 0);
        x.flights(1, 20, 0);
        Checks.due("how it stands stays", Look.at(x), ahead);
    }

    private static void seatedOthers() {
        Checks.edge(23, "-2: others, nobody");
        Checks.due("nobody", new PastSleep().seated(-1), -2);
        Checks.due("nobody", new PastSleep().seated(0), -2);
        Checks.due("nobody", Checks.of(row(5, 9)).seated(4), -2);
        for (int many = 1; many <= 5; many++) {
            StringBuilder all = new StringBuilder(row(5, 2));
            for (int i = 0; i < many; i++) {
                all.append(sitter("n" + (char) ('a' + i), i, 0, 1, 0, 0));
            }
            PastSleep x = Checks.of(all.toString());
            Checks.due("PENCE", x.seated(-1), 0);
            Checks.due("the last", x.seated(many - 1), many - 1);
            Checks.due("behind the last", x.seated(many), -2);
            Checks.due("-2", x.seated(-2), -2);
            Checks.due("far", x.seated(Integer.MIN_VALUE), -2);
            Checks.due("far", x.seated(Integer.MAX_VALUE), -2);
        }
    }

    private static void seatedOne() {
        Checks.edge(23, "the order of all sitters on their SEATS: one alone");
        PastSleep x = Checks.of(row(5, 5) + sitter("a", 3, 4, 99, 0, 9).replace("limit 99", "limit 7") + "price 1 1 9 1;");
        Checks.due("PENCE", x.seated(-1), 36);
        Checks.due("he", x.seated(0), 0);
        Checks.due("no other", x.seated(1), -2);
    }

    /** Each goes in turn while all behind him in turn are ASLEEP, so who goes last sits by the window. */
    private static String inTurn(int... turns) {
        StringBuilder all = new StringBuilder(row(turns.length, 9) + "price 1 0 0 0;");
        for (int i = 0; i < turns.length; i++) {
            all.append(sitter("n" + (char) ('a' + i), i, 1, turns[i], 0, turns[i]));
        }
        return all.toString();
    }

    private static void seatedFive() {
        Checks.edge(23, "with the least PENCE by HABITS: each of the orders of five, the last one, too");
        int[][] all = {{1, 2, 3, 4, 5}, {5, 4, 3, 2, 1}, {2, 1, 4, 3, 5}, {3, 5, 1, 2, 4}, {1, 5, 2, 4, 3}};
        for (int[] turns : all) {
            PastSleep x = Checks.of(inTurn(turns));
            Checks.due("nobody is woken", x.seated(-1), 0);
            for (int place = 0; place < 5; place++) {
                int due = 0;
                for (int i = 0; i < 5; i++) {
                    due = turns[i] == 5 - place ? i : due;
                }
                Checks.due("on the SEAT " + place, x.seated(place), due);
            }
        }
        PastSleep two = Checks.of(inTurn(1, 2));
        Checks.due("of two", two.seated(0), 1);
        Checks.due("of two", two.seated(1), 0);
    }

    private static void seatedEqual() {
        Checks.edge(23, "of equal ones the first (the least SEAT's sitter ahead)");
        PastSleep x = Checks.of(inTurn(1, 2, 3, 4, 5).replace("price 1 0 0 0", "price 0 0 0 0"));
        for (int i = 0; i < 5; i++) {
            Checks.due("all are equal", x.seated(i), i);
        }
        // c goes alone and wakes a and b wherever they sit ahead of him: c at the aisle, a ahead of b
        String abc = sitter("a", 2, 0, 99, 0, 9) + sitter("b", 1, 0, 99, 0, 9) + sitter("c", 0, 4, 8, 0, 0);
        x = Checks.of(row(3, 4) + abc);
        Checks.due("a", x.seated(0), 0);
        Checks.due("b", x.seated(1), 1);
        Checks.due("c", x.seated(2), 2);
        Checks.due("none is woken", x.seated(-1), 0);
        x = Checks.of(row(3, 4) + abc.replace("sitter c", "sitter d").replace("at 2", "at 9").replace("at 0", "at 2").replace("at 9", "at 0"));
        Checks.due("as numbered, not as they sit", x.seated(0), 0);
    }

    private static void seatedPence() {
        Checks.edge(23, "what NONE: PENCE");
        String two = sitter("a", 0, 4, 8, 0, 0) + sitter("b", 1, 4, 8, 0, 9);
        // b at the aisle is woken at 2 and at 6, as a comes back, and TOO LATE behind 2; by the window behind 2 to 8
        String late = two.replace("limit 99", "limit 9");
        Checks.due("b at the aisle", Checks.of(row(2, 9) + late + "price 3 0 9 0;").seated(-1), 2 * 3 + 9);
        Checks.due("b at the aisle", Checks.of(row(2, 9) + late + "price 3 0 9 0;").seated(1), 1);
        Checks.due("b by the window", Checks.of(row(2, 9) + late + "price 99 0 1 0;").seated(-1), 7);
        PastSleep x = Checks.of(row(2, 9) + late + "price 99 0 0 0;");
        Checks.due("b by the window", x.seated(0), 1);
        Checks.due("for nothing", x.seated(-1), 0);
    }

    private static void seatedSeats() {
        Checks.edge(23, "i: the sitter on the i-th of the SEATS that are taken, from the window");
        PastSleep x = Checks.of(row(5, 9) + sitter("a", 1, 4, 8, 0, 0) + sitter("b", 4, 0, 99, 0, 9));
        Checks.due("b on SEAT 1", x.seated(0), 1);
        Checks.due("a on SEAT 4", x.seated(1), 0);
        Checks.due("no third", x.seated(2), -2);
        Checks.edge(23, "the order of all sitters on their SEATS: of the CABIN as it is now");
        x.mark(0, false);
        Checks.cabin(x, row(2, 9) + sitter("a", 0, 4, 99, 0, 9).replace("limit 99", "limit 7") + sitter("b", 1, 4, 8, 0, 0) + "price 1 1 9 1;");
        Checks.due("TOO LATE behind 1 to 8", x.seated(-1), 72);
        Checks.due("a by the window", x.seated(0), 0);
        x.mark(0, true);
        Checks.due("b by the window again", x.seated(0), 1);
        Checks.due("for nothing", x.seated(-1), 0);
        Checks.cabin(x, row(5, 9) + "belt 0 to 9");
        Checks.due("a FAULT: as it was", x.seated(0), 1);
    }

    private static void aisleOthers() {
        Checks.edge(24, "NoSuchElementException: others");
        PastSleep x = Checks.of(row(2, 9) + sitter("a", 0, 4, 8, 0, 0));
        Checks.due("the one", Checks.aisle(x, 0), 0);
        Checks.due("the second of one", Checks.aisle(x, 1), Checks.THROWS);
        Checks.due("-1", Checks.aisle(x, -1), Checks.THROWS);
        for (int far : FAR) {
            Checks.due("sitter " + far, Checks.aisle(x, far), Checks.THROWS);
        }
        Checks.due("nobody", Checks.aisle(new PastSleep(), 0), Checks.THROWS);
    }

    private static void aisleHimself() {
        Checks.edge(24, "by changing SEATS with who sits nearest to the aisle: himself");
        PastSleep x = Checks.of(row(5, 9) + sitter("a", 0, 4, 8, 0, 0) + sitter("b", 3, 4, 99, 0, 9) + "price 9 9 9 9;");
        Checks.due("b is woken there as here", Checks.aisle(x, 1), 0);
    }

    private static void aisleBelow() {
        Checks.edge(24, "AISLE (it may be below 0)");
        PastSleep x = Checks.of(row(2, 3) + sitter("a", 0, 0, 99, 0, 9) + sitter("b", 1, 4, 4, 0, 0) + "price 99 9 0 9;");
        Checks.due("a at the aisle would be woken once", Checks.aisle(x, 0), -99);
        Checks.due("b sits there", Checks.aisle(x, 1), 0);
    }

    private static void aisleAbove() {
        Checks.edge(24, "what one saves (as woken, TOO LATE)");
        // both go at 2; the first of them is OUT for 10, the second for 1 and TOO LATE behind 5 to 9
        String two = (sitter("a", 0, 4, 8, 0, 0) + sitter("b", 1, 4, 8, 0, 0)).replace("limit 99", "limit 9");
        PastSleep x = Checks.of(row(2, 10) + two + "queue 9-out*9;belt 3 to 9;price 0 0 7 0;");
        Checks.due("a is TOO LATE", x.habits(0, 2), 5);
        Checks.due("b is not", x.habits(1, 2), 0);
        Checks.due("a saves 5", Checks.aisle(x, 0), 35);
        Checks.due("his own alone: b", Checks.aisle(x, 1), 0);
        x = Checks.of(row(2, 10) + two + "queue out*9;belt 3 to 9;price 0 0 7 0;");
        Checks.due("the other way round", Checks.aisle(x, 0), -35);
    }

    private static void aisleNearest() {
        Checks.edge(24, "who sits nearest to the aisle: on whichever SEAT");
        String two = (sitter("a", 1, 4, 8, 0, 0) + sitter("b", 3, 4, 8, 0, 0)).replace("limit 99", "limit 9");
        PastSleep x = Checks.of(row(5, 10) + two + "queue 9-out*9;belt 3 to 9;price 0 0 7 0;");
        Checks.due("of SEATS 1 and 3", Checks.aisle(x, 0), 35);
        String three = (sitter("a", 0, 4, 8, 0, 0) + sitter("b", 2, 4, 8, 0, 0) + sitter("c", 1, 0, 99, 0, 9)).replace("limit 99", "limit 9");
        x = Checks.of(row(3, 10) + three + "queue 9-out*9;belt 3 to 9;price 5 0 7 0;");
        Checks.due("a and b change, c stays", Checks.aisle(x, 0), 35);
        Checks.due("c is woken at 2 by a", x.habits(2, 1), 1);
        Checks.due("and at the aisle by b, then awake for a", Checks.aisle(x, 2), 0);
    }

    private static void aisleIsEmpty() {
        Checks.edge(24, "by changing SEATS with who sits nearest to the aisle: he has the other's SEAT then, the one at the aisle stays empty");
        // b by the window goes at 2, 5, 8 and wakes c and a at 2, at 6 as he comes back; c goes at 3, 6, 9 and wakes a
        // at 10 as he comes back. Were b ahead of c yet, c slept on, and a were woken at 2 and 6 alone.
        PastSleep x = Checks.of(row(4, 11) + sitter("a", 0, 0, 99, 0, 72) + sitter("c", 1, 4, 8, 0, 72) + sitter("b", 2, 4, 8, 0, 0));
        Checks.due("a by the window is not woken", x.habits(0, 1), 0);
        Checks.due("on SEAT 2 of 4 thrice", Checks.aisle(x, 0), -3);
    }

    private static void beerOthers() {
        Checks.edge(25, "(likewise) NoSuchElementException: others");
        PastSleep x = Checks.of(row(2, 9) + sitter("a", 0, 4, 8, 0, 0));
        Checks.due("the one", Checks.beer(x, 0), 0);
        Checks.due("the second of one", Checks.beer(x, 1), Checks.THROWS);
        Checks.due("-1", Checks.beer(x, -1), Checks.THROWS);
        for (int far : FAR) {
            Checks.due("sitter " + far, Checks.beer(x, far), Checks.THROWS);
        }
        Checks.due("nobody", Checks.beer(new PastSleep(), 0), Checks.THROWS);
    }

    private static void beerNine() {
        Checks.edge(25, "NoSuchElementException: needs are 9");
        for (String kind : new String[] {"plain", "drinker", "feigner"}) {
            for (int needs = 0; needs <= 9; needs++) {
                PastSleep x = Checks.of(row(2, 1) + Checks.sitter("a", kind, 0, needs, 99, 99, 5, 30, 0, 0));
                Checks.due(kind + " with " + needs, Checks.beer(x, 0), needs == 9 ? Checks.THROWS : 0);
            }
        }
    }

    private static void beerDrinker() {
        Checks.edge(25, "how many PENCE more there are by HABITS if one's needs were 1 more");
        String a = Checks.sitter("a", "plain", 0, 0, 3, 99, 5, 30, 0, 0);
        Checks.due("plain: 1, 2, 3", Checks.beer(Checks.of(row(2, 3) + a + "price 0 0 7 0;"), 0), 0);
        Checks.due("plain: 1, 2, 3, 4", Checks.beer(Checks.of(row(2, 4) + a + "price 0 0 7 0;"), 0), 7);
        Checks.due("drinker: 2, 4, 6", Checks.beer(Checks.of(row(2, 3) + a.replace("plain", "drinker") + "price 0 0 7 0;"), 0), 14);
        PastSleep x = Checks.of(row(2, 4) + a + sitter("b", 1, 0, 99, 0, 9) + "price 0 0 7 0;");
        Checks.due("b's needs, not a's", Checks.beer(x, 1), 0);
        Checks.due("a's", Checks.beer(x, 0), 7);
        Checks.due("they were told as they are", x.habits(-1, 1), 0);
        Checks.due("of all: a's going wakes b", Checks.beer(Checks.of(row(2, 4) + a.replace("goes 99", "goes 3") + sitter("b", 1, 0, 99, 0, 9)
            + "price 5 0 7 0;"), 0), 5);
    }

    private static void beerBelow() {
        Checks.edge(25, "BEER (likewise: it may be below 0)");
        String a = Checks.sitter("a", "plain", 0, 8, 15, 9, 5, 30, 0, 0);
        Checks.due("9 is enough to go at 1", Checks.beer(Checks.of(row(2, 3) + a + "price 0 0 99 0;"), 0), -99);
    }

    private static void flightsOthers() {
        Checks.edge(31, "FLIGHTS by a SEED (0 to 9999) .. so many flights (1 to 20); NONE: others");
        PastSleep x = Checks.of(row(2, 9) + sitter("a", 0, 4, 8, 0, 0));
        for (int far : new int[] {Integer.MIN_VALUE, -1, 10000, 10001, Integer.MAX_VALUE}) {
            Checks.due("SEED " + far, x.flights(far, 1, 0), -1);
        }
        for (int far : new int[] {Integer.MIN_VALUE, -1, 0, 21, 22, Integer.MAX_VALUE}) {
            Checks.due("flights " + far, x.flights(1, far, 0), -1);
        }
        for (int far : new int[] {Integer.MIN_VALUE, -1, 3, Integer.MAX_VALUE}) {
            Checks.due("what " + far, x.flights(1, 1, far), -1);
        }
        for (int what = 0; what <= 2; what++) {
            Checks.due("nobody", new PastSleep().flights(0, 20, what), 0);
            Checks.due("nobody ahead", x.flights(9999, 20, what), 0);
            Checks.due("nobody ahead", x.flights(0, 1, what), 0);
        }
    }

    private static int[] draws(long seed, int many) {
        long g = seed;
        int[] draws = new int[many];
        for (int i = 0; i < many; i++) {
            g = (g * 1103515245 + 12345) % 2147483648L;
            draws[i] = (int) (g / 65536 % 10);
        }
        return draws;
    }

    private static void flights(PastSleep x, int seed, int many, int... due) {
        for (int what = 0; what < 3; what++) {
            Checks.due("flights " + seed + " " + many + " " + what, x.flights(seed, many, what), due[what]);
        }
    }

    private static void flightsBounds() {
        Checks.edge(31, "below WAKING he wakes: 0 never, 10 surely; so many flights (1 to 20)");
        String two = row(2, 3) + sitter("a", 0, 4, 8, 0, 0) + sitter("b", 1, 0, 99, 0, 9);
        for (int seed : new int[] {0, 1, 77, 9998, 9999}) {
            for (int many : new int[] {1, 2, 19, 20}) {
                flights(Checks.of(two + "wake 0;"), seed, many, 0, many, 0);
                flights(Checks.of(two + "wake 10;"), seed, many, many, 0, 0);
            }
        }
    }

    private static void flightsDraw() {
        Checks.edge(31, "A DRAW below m: g becomes (g * 1103515245 + 12345) modulo 2147483648; it is g / 65536, cut, modulo m");
        String two = row(2, 3) + sitter("a", 0, 4, 8, 0, 0) + sitter("b", 1, 0, 99, 0, 9);
        for (int seed : new int[] {0, 1, 2, 3, 500, 4999, 9998, 9999}) {
            int draw = draws(seed, 1)[0];
            flights(Checks.of(two + "wake " + draw + ";"), seed, 1, 0, 1, 0);
            flights(Checks.of(two + "wake " + (draw + 1) + ";"), seed, 1, 1, 0, 0);
        }
        Checks.edge(31, "g / 65536, cut, modulo m: far on");
        // wake 5: each flight asks once; 20 flights use 20 DRAWS
        for (int seed : new int[] {0, 7, 9999}) {
            int due = 0;
            for (int draw : draws(seed, 20)) {
                due += draw < 5 ? 1 : 0;
            }
            flights(Checks.of(two + "wake 5;"), seed, 20, due, 20 - due, 0);
        }
    }

    private static void flightsGoOn() {
        Checks.edge(31, "so many flights, g goes on");
        String two = row(2, 3) + sitter("a", 0, 4, 8, 0, 0) + sitter("b", 1, 0, 99, 0, 9);
        for (int seed = 0; seed < 9; seed++) {
            int[] draws = draws(seed, 3);
            for (int many = 1; many <= 3; many++) {
                int due = 0;
                for (int i = 0; i < many; i++) {
                    due += draws[i] < 4 ? 1 : 0;
                }
                flights(Checks.of(two + "wake 4;"), seed, many, due, many - due, 0);
            }
        }
        PastSleep x = Checks.of(two + "wake 4;");
        int first = x.flights(3, 5, 0);
        Checks.due("the SEED begins anew in each call", x.flights(3, 5, 0), first);
    }

    private static void flightsFeigner() {
        Checks.edge(31, "each ASLEEP ahead is asked with a DRAW below 10: a feigner, too");
        String three = row(3, 3) + sitter("a", 0, 4, 8, 0, 0) + sitter("f", 1, 0, 99, 0, 9).replace("plain", "feigner")
            + sitter("b", 2, 0, 99, 0, 9);
        for (int seed = 0; seed < 9; seed++) {
            int[] draws = draws(seed, 2);
            boolean wakes = draws[1] < 5;
            flights(Checks.of(three + "wake 5;"), seed, 1, wakes ? 2 : 1, wakes ? 0 : 1, 0);
        }
    }

    private static void flightsOrder() {
        Checks.edge(31, "one by one from his own on; who comes back from the aisle on");
        // b, nearer to a, wakes by depth 1: surely; c, at the aisle, never
        String going = row(3, 3) + sitter("a", 0, 4, 8, 0, 0) + sitter("b", 1, 0, 99, 0, 9).replace("depth 5", "depth 1") + sitter("c", 2, 0, 99, 0, 9);
        flights(Checks.of(going + "wake 10*(depth=1);"), 4, 1, 1, 1, 0);
        flights(Checks.of(going + "wake 10*(depth=5);"), 4, 1, 0, 1, 0);
        String coming = going.replace("flight 3", "flight 4").replace("0 to 9", "3 to 9");
        flights(Checks.of(coming + "wake 10*(depth=1);"), 4, 1, 0, 1, 0);
        flights(Checks.of(coming + "wake 10*(depth=5);"), 4, 1, 1, 1, 0);
    }

    private static void flightsVain() {
        Checks.edge(31, "else it is in vain and he stays this TICK");
        String two = sitter("a", 0, 4, 8, 0, 0).replace("limit 99", "limit 9") + sitter("b", 1, 0, 99, 0, 72);
        flights(Checks.of(row(2, 9) + two + "wake 0;"), 1, 1, 0, 7, 7);
        flights(Checks.of(row(2, 9) + two + "wake 10*(3<tick);"), 1, 1, 2, 2, 2 + 0);
        Checks.edge(31, "(who comes back stands on till the next TICK; his need grows there)");
        String back = two.replace("0 to 72", "3 to 72");
        // out at 2; 4, 8, 12, 16 behind 3, 4, 5, 6
        flights(Checks.of(row(2, 7) + back + "wake 0;"), 1, 1, 0, 4, 2);
        Checks.due("he does not go from there", Checks.of(row(2, 7) + back + "wake 0;queue 9;").flights(1, 1, 1), 0);
        // back at 5, with 8: goes at once
        flights(Checks.of(row(2, 6) + back + "wake 10*(tick=5);"), 1, 1, 1, 2, 0);
    }

    private static void flightsShut() {
        Checks.edge(31, "as HABITS: waking those who are ASLEEP ahead of him then (even if it is SHUT)");
        String two = sitter("a", 0, 4, 8, 0, 0) + sitter("b", 1, 0, 99, 3, 72);
        flights(Checks.of(row(2, 9) + two + "wake 0;belt 3 to 8;"), 1, 1, 0, 6, 0);
        flights(Checks.of(row(2, 9) + two + "wake 10;belt 3 to 8;"), 1, 1, 1, 0, 0);
        flights(Checks.of(row(2, 9) + two + "wake 0;belt 2 to 8;"), 1, 1, 0, 0, 0);
    }

    private static void flightsBegin() {
        Checks.edge(31, "asked begins at 0 in each, cups stand");
        String two = row(2, 4) + sitter("a", 0, 4, 8, 0, 0) + sitter("b", 1, 0, 99, 0, 72);
        for (int many : new int[] {1, 20}) {
            flights(Checks.of(two + "wake asked*10;"), 3, many, many, many, 0);
            flights(Checks.of(two + "wake 10-asked*10;"), 3, many, many, 0, 0);
            flights(Checks.of(two + "wake cup*10;cup 1;"), 3, many, many, 0, 0);
            flights(Checks.of(two + "wake cup*10;cup 0;"), 3, many, 0, 2 * many, 0);
        }
        PastSleep x = Checks.of(two + "wake (asked=0)*cup*10;cup 1;");
        x.go(0, 0, 0);
        x.go(0, 3, 0);
        x.ticks(4);
        flights(x, 3, 20, 20, 0, 0);
    }
}
