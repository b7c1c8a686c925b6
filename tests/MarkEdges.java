/** The edges of promises 32 and 33: MARKS, counts. */
public final class MarkEdges {
    private static final String A = Checks.sitter("a", "plain", 0, 5, 9, 9, 5, 30, 0, 0);
    private static final String B = Checks.sitter("b", "light", 1, 3, 9, 9, 6, 30, 0, 9);
    private static final String TWO = "row 2 flight 9;" + A + B + "cup 1;belt 4 to 4;gap 7;feign 3;price 2 3 4 5;wake 9-asked;spill 2+tick+side;queue tick;";
    private static final String OTHER = "row 5 flight 72;" + Checks.sitter("c", "tall", 4, 1, 1, 1, 1, 20, 3, 9)
        + "cup 3;cup 4;belt 0 to 3;trolley 5 to 6;gap 20;price 9 9 9 9;feign 10;wake 1;spill 9;queue 9;";

    public static void main(String[] args) {
        markOthers();
        nothingOnIt();
        layingChangesNothing();
        holdsAll();
        anotherCabin();
        notTheTape();
        nothingUndone();
        goneBackTwice();
        laidAnew();
        theirOwn();
        ofNewObject();
        afterTheEnd();
        countOthers();
        countCabin();
        countTick();
        countGoings();
        countCups();
        countUndone();
        countSigns();
        Checks.end();
    }

    /** Something of each kind has come about in it: in vain, SPILT on, OUT, TOO LATE, told by hand. */
    private static PastSleep lived() {
        PastSleep x = Checks.of(TWO);
        x.ticks(2);
        x.go(0, 0, 0);
        x.go(0, 3, 0);
        x.touch(0, true);
        x.touch(1, false);
        x.went(0, 2);
        x.ticks(1);
        return x;
    }

    private static void markOthers() {
        Checks.edge(32, "MARKS 0 to 3; false: none such");
        PastSleep x = lived();
        String ahead = Look.at(x);
        for (int wrong : new int[] {Integer.MIN_VALUE, -2, -1, 4, 5, 31, Integer.MAX_VALUE}) {
            Checks.due("laid " + wrong, x.mark(wrong, false), false);
            Checks.due("back to " + wrong, x.mark(wrong, true), false);
        }
        Checks.due("nothing changes", Look.at(x), ahead);
        for (int mark = 0; mark < 4; mark++) {
            Checks.due("laid " + mark, x.mark(mark, false), true);
            Checks.due("back to " + mark, x.mark(mark, true), true);
        }
    }

    private static void nothingOnIt() {
        Checks.edge(32, "false: nothing is on it (back)");
        for (int laid = 0; laid < 4; laid++) {
            PastSleep x = lived();
            String ahead = Look.at(x);
            x.mark(laid, false);
            for (int mark = 0; mark < 4; mark++) {
                Checks.due("back to " + mark, x.mark(mark, true), mark == laid);
                Checks.due("as it was", Look.at(x), ahead);
            }
        }
        PastSleep x = lived();
        x.go(1, 0, 0);
        int undone = x.count(10);
        x.mark(2, true);
        Checks.due("refused: what can be undone stays", x.count(10), undone);
    }

    private static void layingChangesNothing() {
        Checks.edge(32, "A MARK is laid: nothing changes, what can be undone stays");
        PastSleep x = Checks.of(TWO);
        x.go(0, 0, 0);
        x.feed('r', 0, 0);
        String ahead = Look.whole(x);
        x.mark(0, false);
        Checks.due("as it was", Look.whole(x), ahead);
        Checks.due("one can be undone", x.undo(), true);
    }

    private static void holdsAll() {
        Checks.edge(32, "MARKS hold the CABIN and all as it is");
        PastSleep x = lived();
        String ahead = Look.whole(x);
        x.mark(1, false);
        x.ticks(3);
        x.go(1, 0, 0);
        x.back(0, 3, 0);
        x.touch(0, false);
        x.touch(1, true);
        x.went(0, 9);
        x.went(1, 1);
        Checks.due("changed", Look.at(x).equals(ahead), false);
        Checks.due("back", x.mark(1, true), true);
        Checks.due("all as it was", Look.whole(x), ahead);
        Checks.edge(32, "all as it is: who was woken sleeps on as he would have");
        x.ticks(2);
        Checks.due("woken at 2, at 5", x.sitter(1, 3), 0);
        x.ticks(1);
        Checks.due("at 6", x.sitter(1, 3), 1);
        Checks.due("a was OUT from 2 for 3", x.sitter(0, 4), -1);
    }

    private static void anotherCabin() {
        Checks.edge(32, "MARKS hold the CABIN: another one was told since");
        PastSleep x = lived();
        String ahead = Look.whole(x);
        x.mark(3, false);
        Checks.due("another", Checks.cabin(x, OTHER), 0);
        x.touch(0, false);
        x.went(0, 7);
        x.went(0, 9);
        Checks.due("changed", x.count(0), 5);
        Checks.due("back", x.mark(3, true), true);
        Checks.due("all as it was", Look.whole(x), ahead);
        x = lived();
        x.mark(3, false);
        Checks.due("with a FAULT", Checks.cabin(x, OTHER + "gap 20;") > 0, true);
        Checks.due("back", x.mark(3, true), true);
        Checks.due("all as it was", Look.at(x), Look.at(lived()));
        Checks.due("limits, goes and legs, too", x.length(1), lived().length(1));
        Checks.due("told cups: b wakes in FLIGHTS", Checks.of(TWO.replace("9-asked", "cup*10")).flights(1, 1, 1), 0);
        PastSleep y = Checks.of(TWO.replace("9-asked", "cup*10"));
        y.mark(0, false);
        Checks.cabin(y, OTHER);
        y.mark(0, true);
        Checks.due("gone back to", y.flights(1, 1, 1), 0);
    }

    private static void notTheTape() {
        Checks.edge(32, "MARKS hold all as it is, but the TAPE");
        PastSleep x = Checks.of(TWO);
        x.feed('r', 'o', 'w');
        x.mark(0, false);
        x.feed(Checks.eight(" 3 fligh", 0), Checks.eight("t 9;", 0), 0);
        x.mark(0, true);
        Checks.due("signs", x.count(11), 15);
        Checks.due("read", x.cabin(), 0);
        Checks.due("SEATS", x.count(0), 3);
        x.mark(0, true);
        Checks.due("empty as it is now", x.count(11), 0);
    }

    private static void nothingUndone() {
        Checks.edge(32, "(nothing can be undone when one is gone back to)");
        PastSleep x = Checks.of(TWO);
        x.go(0, 0, 0);
        x.go(0, 0, 0);
        x.mark(0, false);
        x.go(0, 0, 0);
        x.mark(0, true);
        Checks.due("none", x.count(10), 0);
        Checks.due("nothing", x.undo(), false);
        Checks.due("two in vain stay", x.count(5), 2);
        x.go(0, 0, 0);
        Checks.due("since then", x.undo(), true);
        Checks.due("two in vain", x.count(5), 2);
        Checks.due("no more", x.undo(), false);
    }

    private static void goneBackTwice() {
        Checks.edge(32, "gone back to: the MARK stays as it was laid");
        PastSleep x = Checks.of(TWO);
        x.ticks(1);
        String ahead = Look.whole(x);
        x.mark(2, false);
        for (int i = 0; i < 2; i++) {
            x.go(0, 3, 0);
            x.touch(0, true);
            x.went(1, 6);
            x.ticks(4);
            x.mark(2, true);
        }
        Checks.due("as it was", Look.whole(x), ahead);
        Checks.cabin(x, OTHER);
        x.mark(2, true);
        Checks.due("as it was", Look.whole(x), ahead);
        Checks.due("TICK 1", x.count(3), 1);
        Checks.due("no touch", x.truly(0, 1), 2);
        Checks.due("nothing is told", x.went(1, 6), true);
    }

    private static void laidAnew() {
        Checks.edge(32, "A MARK is laid: on one that was laid ahead");
        PastSleep x = Checks.of(TWO);
        x.mark(0, false);
        x.ticks(3);
        x.mark(0, false);
        x.ticks(3);
        x.mark(0, true);
        Checks.due("the later one", x.count(3), 3);
    }

    private static void theirOwn() {
        Checks.edge(32, "MARKS 0 to 3, each its own");
        PastSleep x = Checks.of(TWO);
        for (int mark = 0; mark < 4; mark++) {
            x.mark(mark, false);
            x.ticks(1);
            x.touch(0, true);
        }
        for (int mark = 3; mark >= 0; mark--) {
            x.mark(mark, true);
            Checks.due("TICK", x.count(3), mark);
            Checks.due("touches", x.truly(0, 1) == 2, mark == 0);
        }
        PastSleep y = Checks.of(TWO);
        Checks.due("another object's", y.mark(0, true), false);
    }

    private static void ofNewObject() {
        Checks.edge(32, "MARKS hold the CABIN: row 2 flight 1, nobody");
        PastSleep x = new PastSleep();
        x.mark(0, false);
        Checks.cabin(x, TWO);
        x.mark(0, true);
        Checks.due("as new", Look.whole(x), Look.whole(new PastSleep()));
    }

    private static void afterTheEnd() {
        Checks.edge(32, "gone back to: from behind the flight's end");
        PastSleep x = Checks.of(TWO);
        x.ticks(8);
        x.mark(0, false);
        x.ticks(9);
        Checks.due("over", x.count(3), 9);
        x.mark(1, false);
        x.mark(0, true);
        Checks.due("not yet", x.count(3), 8);
        Checks.due("a goes", x.go(0, 3, 2), 1);
        x.mark(1, true);
        Checks.due("over", x.go(0, 3, 2), -1);
    }

    private static void countOthers() {
        Checks.edge(33, "NONE for another what");
        for (int wrong : new int[] {Integer.MIN_VALUE, -2, -1, 12, 13, Integer.MAX_VALUE}) {
            Checks.due("what " + wrong, lived().count(wrong), -1);
        }
        Checks.due("what 0", lived().count(0), 2);
        Checks.due("what 11", lived().count(11), 0);
    }

    private static void countCabin() {
        Checks.edge(33, "What 0: SEATS, 1: the flight's TICKS, 2: sitters, 9: gap: the least and the most");
        PastSleep x = Checks.of("row 2 flight 1;gap 5;");
        int[] least = {2, 1, 0, 5};
        StringBuilder all = new StringBuilder("row 5 flight 72;gap 20;");
        for (int i = 0; i < 5; i++) {
            all.append(Checks.sitter("n" + (char) ('a' + i), "plain", i, 0, 9, 9, 5, 30, 0, 0));
        }
        PastSleep y = Checks.of(all.toString());
        int[] most = {5, 72, 5, 20};
        int[] whats = {0, 1, 2, 9};
        for (int i = 0; i < 4; i++) {
            Checks.due("least " + whats[i], x.count(whats[i]), least[i]);
            Checks.due("most " + whats[i], y.count(whats[i]), most[i]);
        }
    }

    private static void countTick() {
        Checks.edge(33, "3: TICK now, 7: TOO LATE: from 0 to the flight's end");
        PastSleep x = Checks.of("row 2 flight 72;" + Checks.sitter("a", "plain", 0, 9, 1, 9, 5, 30, 0, 0)
            + Checks.sitter("b", "plain", 1, 9, 1, 9, 5, 30, 0, 0));
        for (int tick = 0; tick <= 72; tick++) {
            Checks.due("TICK", x.count(3), tick);
            Checks.due("TOO LATE, two each TICK", x.count(7), 2 * tick);
            x.ticks(1);
        }
        Checks.due("over", x.count(3), 72);
        Checks.due("over", x.count(7), 144);
    }

    private static void countGoings() {
        Checks.edge(33, "4: wakings, 5: in vain, 6: SPILT on: of goings and ways back");
        PastSleep x = Checks.of("row 2 flight 30;" + A + B.replace("0 to 9", "0 to 30"));
        x.go(0, 0, 0);
        Checks.due("wakings", x.count(4), 0);
        Checks.due("in vain", x.count(5), 1);
        x.go(0, 0, 2);
        Checks.due("wakings", x.count(4), 1);
        x.ticks(4);
        x.back(0, 0, 0);
        Checks.due("in vain", x.count(5), 2);
        x.back(0, 6, 0);
        Checks.due("SPILT on", x.count(6), 1);
        Checks.due("he wakes: a waking", x.count(4), 2);
        x.ticks(4);
        x.go(0, 3, 2);
        Checks.due("climbed past with luck", x.count(4) * 100 + x.count(5) * 10 + x.count(6), 221);
        x.undo();
        x.go(0, 3, 0);
        Checks.due("SPILT on again", x.count(6), 2);
        x.undo();
        Checks.due("undone", x.count(4) * 100 + x.count(5) * 10 + x.count(6), 221);
    }

    private static void countCups() {
        Checks.edge(33, "8: cups that stand");
        StringBuilder all = new StringBuilder("row 5 flight 9;" + A);
        for (int i = 1; i < 5; i++) {
            all.append(Checks.sitter("n" + (char) ('a' + i), "plain", i, 0, 9, 9, 5, 30, 0, 9)).append("cup ").append(i).append(";");
        }
        PastSleep x = Checks.of(all + "cup 0;");
        Checks.due("five", x.count(8), 5);
        x.go(0, 3 + 9 + 27 + 81, 2 + 4 + 8);
        Checks.due("one is gone", x.count(8), 4);
        x.ticks(5);
        x.back(0, 3 + 9 + 27 + 81, 0);
        Checks.due("his own stands", x.count(8), 1);
        Checks.due("none told", Checks.of("row 5 flight 9;").count(8), 0);
    }

    private static void countUndone() {
        Checks.edge(33, "10: what can be undone: 0 to 12");
        PastSleep x = Checks.of(TWO);
        for (int i = 0; i <= 14; i++) {
            Checks.due("goings", x.count(10), Math.min(12, i));
            x.go(0, 0, 0);
        }
        for (int i = 12; i >= 0; i--) {
            Checks.due("left", x.count(10), i);
            x.undo();
        }
        Checks.due("none", x.count(10), 0);
    }

    private static void countSigns() {
        Checks.edge(33, "11: signs on the TAPE: 0 to 1,000");
        PastSleep x = new PastSleep();
        Checks.due("none", x.count(11), 0);
        x.feed(0x41, 0, 0x41);
        Checks.due("two", x.count(11), 2);
        Checks.feed(x, "x".repeat(1100));
        Checks.due("full", x.count(11), 1000);
        x.cabin();
        Checks.due("taken", x.count(11), 0);
    }
}
