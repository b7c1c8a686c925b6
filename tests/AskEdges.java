/** All promises: a call that asks changes nothing, and answers the same again; so does one that is refused. */
public final class AskEdges {
    private static final String TEXT = "row 4 flight 12;" + Checks.sitter("a", "plain", 0, 5, 20, 9, 5, 30, 0, 0)
        + Checks.sitter("b", "tall", 1, 3, 9, 9, 6, 30, 0, 12) + Checks.sitter("c", "drinker", 3, 2, 9, 9, 3, 30, 5, 9)
        + "cup 1;cup 3;belt 4 to 4;gap 7;feign 3;price 2 3 4 5;wake 9-asked;spill 2+tick+side;queue out;";
    private static final int CALLS = 28;
    private static final String[] TEXTS = {TEXT, "row 2 flight 1;", "row 5 flight 20;", full(), "row 3 flight 4;"
        + Checks.sitter("x", "light", 2, 9, 8, 7, 9, 21, 0, 72) + Checks.sitter("y", "feigner", 0, 8, 7, 6, 9, 22, 0, 0)};

    public static void main(String[] args) {
        for (int call = 0; call < CALLS; call++) {
            asking(call);
        }
        refusing();
        for (int one = 0; one < TEXTS.length; one++) {
            nothingOfThoseAhead(one);
        }
        manyLaws();
        Checks.end();
    }

    /** a STANDS, b was asked in vain twice and sleeps, c is in his SEAT, awake; one BACK can be undone. */
    private static PastSleep lived() {
        PastSleep x = Checks.of(TEXT);
        x.ticks(1);
        x.go(0, 0, 0);
        x.go(0, 3, 2);
        x.touch(0, true);
        x.touch(2, false);
        x.went(0, 3);
        x.ticks(1);
        x.back(0, 0, 0);
        x.mark(1, false);
        x.feed('r', 0, 0);
        return x;
    }

    private static long ask(PastSleep x, int call, int i) {
        switch (call) {
            case 0: return x.sitter(i, 2);
            case 1: return x.seat(i, 2);
            case 2: return x.shut(i);
            case 3: return x.length(i);
            case 4: return x.sleep(i);
            case 5: return x.odds(i, 1);
            case 6: return x.chance(i, 0, true);
            case 7: return x.cost(i, 0);
            case 8: return x.best(i);
            case 9: return x.side(i);
            case 10: return x.regime(i, 0);
            case 11: return x.fewest(i, 0);
            case 12: return x.before(i);
            case 13: return x.standing(i);
            case 14: return x.habits(i, 1);
            case 15: return x.seated(i);
            case 16: return Checks.aisle(x, i);
            case 17: return Checks.beer(x, i);
            case 18: return x.rests(i + 3, 0);
            case 19: return x.truly(i, 1);
            case 20: return x.fits(i, 0);
            case 21: return x.flights(i, 3, 1);
            case 22: return x.count(i);
            case 23: return x.regime(i, 1);
            case 24: return x.fewest(i, 1);
            case 25: return x.habits(-1, i);
            case 26: return x.rests(7, i);
            default: return x.flights(9999, 20, i);
        }
    }

    private static void asking(int call) {
        Checks.edge(33, "Nothing beyond the answers and state changes described: asking changes nothing");
        PastSleep x = lived();
        String ahead = Look.whole(x);
        long[] first = new long[7];
        for (int i = -1; i < 6; i++) {
            first[i + 1] = ask(x, call, i);
        }
        Checks.due("call " + call + " changes nothing", Look.whole(x), ahead);
        for (int i = -1; i < 6; i++) {
            for (int other = 0; other < CALLS; other++) {
                ask(x, other, i);
            }
            Checks.due("call " + call + " of " + i + ", whatever was asked since", ask(x, call, i), first[i + 1]);
        }
        Checks.due("the BACK can be undone", x.count(10), 1);
    }

    private static String full() {
        StringBuilder all = new StringBuilder("row 5 flight 40;");
        for (int i = 0; i < 5; i++) {
            all.append(Checks.sitter("n" + (char) ('a' + i), "tall", i, 1 + i, 30 + i, 9, 7 - i, 40 - i, i, 40 - 2 * i)).append("cup ").append(i).append(';');
        }
        return all + "belt 7 to 9;belt 71 to 71;belt 0 to 0;trolley 30 to 35;gap 20;feign 0;price 9 8 7 6;"
            + "wake (depth-1)*(tick<5)+3;spill (legs-gap*2+side)*cup;queue tick*out;";
    }

    /** All that one object answers of how it stands and of what can be asked. */
    private static String all(PastSleep x) {
        StringBuilder all = new StringBuilder(Look.whole(x));
        for (int call = 0; call < CALLS; call++) {
            for (int i = -1; i < 5; i++) {
                all.append(ask(x, call, i)).append(' ');
            }
        }
        return all.toString();
    }

    private static void nothingOfThoseAhead(int one) {
        Checks.edge(3, "Without a FAULT it is the CABIN from then on: nothing is left of those ahead");
        for (int other = 0; other < TEXTS.length; other++) {
            for (int third = 0; third < TEXTS.length; third++) {
                PastSleep x = Checks.of(TEXTS[other]);
                lives(x);
                Checks.due("another", Checks.cabin(x, TEXTS[third]), 0);
                lives(x);
                Checks.due("this one", Checks.cabin(x, TEXTS[one]), 0);
                Checks.due("as on a new object", all(x), all(Checks.of(TEXTS[one])));
                Checks.edge(3, "or its FAULT: nothing of one with a FAULT is in the next");
                x = Checks.of(TEXTS[third]);
                Checks.due("a FAULT", Checks.cabin(x, TEXTS[other] + "cup 9;") % 16, 4);
                Checks.due("this one", Checks.cabin(x, TEXTS[one]), 0);
                Checks.due("as on a new object", all(x), all(Checks.of(TEXTS[one])));
                Checks.edge(32, "MARKS hold the CABIN and all as it is, and nothing of others");
                x = Checks.of(TEXTS[one]);
                lives(x);
                String ahead = all(x);
                x.mark(2, false);
                x.mark(3, false);
                Checks.cabin(x, TEXTS[other]);
                lives(x);
                x.mark(3, false);
                Checks.cabin(x, TEXTS[third]);
                lives(x);
                x.mark(2, true);
                Checks.due("gone back to", all(x), ahead);
            }
        }
    }

    /** Something comes about in it, if it can. */
    private static void lives(PastSleep x) {
        x.ticks(1);
        x.go(0, 1, 3);
        x.go(1, 3, 0);
        x.go(2, 0, 3);
        for (int i = 0; i < 5; i++) {
            x.touch(i, i % 2 == 0);
            x.went(i, i + 2);
            x.went(i, 2 * i + 5);
            x.regime(i, 0);
            x.fewest(i, 0);
        }
        x.ticks(2);
        x.back(0, 0, 3);
        x.seated(-1);
        x.flights(7, 3, 0);
        x.rests(7, -1);
        while (x.undo()) {
            x.count(10);
        }
    }

    private static void manyLaws() {
        Checks.edge(3, "An E, however long those of the CABINS ahead were");
        PastSleep x = new PastSleep();
        for (int i = 0; i < 9; i++) {
            String text = "row 2 flight 9;" + Checks.sitter("a", "plain", 0, 1, 9, 9, 5, 30, 0, 0) + "wake " + i + "+0".repeat(420) + ";spill " + i + ";";
            Checks.due("law " + i, Checks.cabin(x, text), 0);
            Checks.due("WAKING", x.odds(0, 0), i);
            Checks.due("SPILLING", x.odds(0, 1), i);
        }
        Checks.edge(3, "An E: nothing of those of the CABINS ahead is in it");
        for (int i = 0; i < 6; i++) {
            String text = "row 2 flight 9;" + Checks.sitter("a", "plain", 0, 1, 9, 9, 5, 30, 0, 0);
            Checks.due("a longer one", Checks.cabin(x, text + "wake not 5;spill not 0;"), 0);
            Checks.due("not 5", x.odds(0, 0), 0);
            Checks.due("a longer one, too", i % 2 == 0 ? Checks.cabin(x, text + "spill not not not 1;") : 0, 0);
            Checks.due("a short one", Checks.cabin(x, text + "wake 5;"), 0);
            Checks.due("5", x.odds(0, 0), 5);
            Checks.due("3 as none is told", x.odds(0, 1), 3);
        }
    }

    private static void refusing() {
        Checks.edge(33, "a refused call changes nothing");
        PastSleep x = lived();
        String ahead = Look.whole(x);
        x.go(0, 0, 15);
        x.go(1, 0, -1);
        x.go(2, 81, 0);
        x.back(1, 0, 0);
        x.back(0, 0, 16);
        x.ticks(0);
        x.ticks(73);
        x.touch(3, true);
        x.went(0, 3);
        x.went(3, 3);
        x.mark(4, false);
        x.mark(0, true);
        x.feed(0, 0, 0);
        Checks.due("all as it was", Look.whole(x), ahead);
        Checks.due("the MARK, too", x.mark(1, true), true);
        Checks.due("a GOING and a BACK in vain", x.count(5), 2);
    }
}
