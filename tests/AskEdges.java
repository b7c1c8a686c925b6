/** All promises: a call that asks changes nothing, and answers the same again; so does one that is refused. */
public final class AskEdges {
    private static final String TEXT = "row 4 flight 12;" + Checks.sitter("a", "plain", 0, 5, 20, 9, 5, 30, 0, 0)
        + Checks.sitter("b", "tall", 1, 3, 9, 9, 6, 30, 0, 12) + Checks.sitter("c", "drinker", 3, 2, 9, 9, 3, 30, 5, 9)
        + "cup 1;cup 3;belt 4 to 4;gap 7;feign 3;price 2 3 4 5;wake 9-asked;spill 2+tick+side;queue out;";
    private static final int CALLS = 28;

    public static void main(String[] args) {
        for (int call = 0; call < CALLS; call++) {
            asking(call);
        }
        refusing();
        Checks.end();
    }

    /** a STANDS, b was asked in vain twice and sleeps, c is in his SEAT, awake; one BACK can be undone. */
    private static PastSleep lived() {
        PastSleep x = Checks.of(TEXT);
        x.ticks(1);
        x.go(0, 0, 0);
        x.go(0, 3, 2);
        x.touch(0, true);
        x.touch(2, false);
        x.went(0, 3);
        x.ticks(1);
        x.back(0, 0, 0);
        x.mark(1, false);
        x.feed('r', 0, 0);
        return x;
    }

    private static long ask(PastSleep x, int call, int i) {
        switch (call) {
            case 0: return x.sitter(i, 2);
            case 1: return x.seat(i, 2);
            case 2: return x.shut(i);
            case 3: return x.length(i);
            case 4: return x.sleep(i);
            case 5: return x.odds(i, 1);
            case 6: return x.chance(i, 0, true);
            case 7: return x.cost(i, 0);
            case 8: return x.best(i);
            case 9: return x.side(i);
            case 10: return x.regime(i, 0);
            case 11: return x.fewest(i, 0);
            case 12: return x.before(i);
            case 13: return x.standing(i);
            case 14: return x.habits(i, 1);
            case 15: return x.seated(i);
            case 16: return Checks.aisle(x, i);
            case 17: return Checks.beer(x, i);
            case 18: return x.rests(i + 3, 0);
            case 19: return x.truly(i, 1);
            case 20: return x.fits(i, 0);
            case 21: return x.flights(i, 3, 1);
            case 22: return x.count(i);
            case 23: return x.regime(i, 1);
            case 24: return x.fewest(i, 1);
            case 25: return x.habits(-1, i);
            case 26: return x.rests(7, i);
            default: return x.flights(9999, 20, i);
        }
    }

    private static void asking(int call) {
        Checks.edge(33, "Nothing beyond the answers and state changes described: asking changes nothing");
        PastSleep x = lived();
        String ahead = Look.whole(x);
        long[] first = new long[7];
        for (int i = -1; i < 6; i++) {
            first[i + 1] = ask(x, call, i);
        }
        Checks.due("call " + call + " changes nothing", Look.whole(x), ahead);
        for (int i = -1; i < 6; i++) {
            for (int other = 0; other < CALLS; other++) {
                ask(x, other, i);
            }
            Checks.due("call " + call + " of " + i + ", whatever was asked since", ask(x, call, i), first[i + 1]);
        }
        Checks.due("the BACK can be undone", x.count(10), 1);
    }

    private static void refusing() {
        Checks.edge(33, "a refused call changes nothing");
        PastSleep x = lived();
        String ahead = Look.whole(x);
        x.go(0, 0, 15);
        x.go(1, 0, -1);
        x.go(2, 81, 0);
        x.back(1, 0, 0);
        x.back(0, 0, 16);
        x.ticks(0);
        x.ticks(73);
        x.touch(3, true);
        x.went(0, 3);
        x.went(3, 3);
        x.mark(4, false);
        x.mark(0, true);
        x.feed(0, 0, 0);
        Checks.due("all as it was", Look.whole(x), ahead);
        Checks.due("the MARK, too", x.mark(1, true), true);
        Checks.due("a GOING and a BACK in vain", x.count(5), 2);
    }
}
