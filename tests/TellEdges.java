/** The edges of promises 26 to 30: RESTS, touches and TRULY, WENT and FITS. */
public final class TellEdges {
    private static final int[] FAR = {Integer.MIN_VALUE, -2, -1, 5, 6, 31, 32, 72, 1 << 30, Integer.MAX_VALUE};

    public static void main(String[] args) {
        restsSets();
        restsWhat();
        restsTwelve();
        restsLimit();
        restsCut();
        restsDigits();
        restsOfThree();
        restsThree();
        restsNearer();
        restsEqual();
        restsBehindTheEnd();
        restsFromThisOne();
        touchOthers();
        touchFifteen();
        touchRefused();
        trulyOthers();
        trulyNothing();
        trulyNeither();
        trulyEnds();
        trulyMost();
        trulyLowest();
        trulyAsTold();
        wentOthers();
        wentTicks();
        wentLater();
        wentTwelve();
        wentRefused();
        fitsOthers();
        fitsNothing();
        fitsNone();
        fitsBounds();
        fitsAgain();
        fitsPlain();
        fitsTwelve();
        Checks.end();
    }

    private static String sitter(String name, int seat, int needs, int limit) {
        return Checks.sitter(name, "plain", seat, needs, limit, 50, 5, 30, 0, 0);
    }

    private static PastSleep of(int seats, String lines) {
        return Checks.of("row " + seats + " flight 9;" + lines);
    }

    private static PastSleep many(int sitters) {
        StringBuilder all = new StringBuilder();
        for (int i = 0; i < sitters; i++) {
            all.append(sitter("n" + (char) ('a' + i), i, 0, 99));
        }
        return of(5, all.toString());
    }

    private static void restsSets() {
        Checks.edge(26, "some sitters (2 or 3) (bits); NONE: others");
        for (int sitters = 0; sitters <= 5; sitters++) {
            PastSleep x = many(sitters);
            for (int set = 0; set < 64; set++) {
                int size = Integer.bitCount(set);
                boolean right = set < 1 << sitters && (size == 2 || size == 3);
                Checks.due(sitters + " sitters, set " + set, x.rests(set, -1), right ? 12 : -1);
                Checks.due(sitters + " sitters, set " + set, x.rests(set, 0), right ? 0 : -1);
            }
            for (int set : new int[] {-1, Integer.MIN_VALUE, Integer.MIN_VALUE | 3, Integer.MIN_VALUE | 1, Integer.MAX_VALUE, 1 << 30 | 1, 1 << 30 | 3}) {
                Checks.due("set " + set, x.rests(set, -1), -1);
            }
        }
        Checks.due("nobody", new PastSleep().rests(3, -1), -1);
    }

    private static void restsWhat() {
        Checks.edge(26, "what NONE: how many; i: the i-th; NONE: others, none such");
        PastSleep x = many(2);
        Checks.due("how many", x.rests(3, -1), 12);
        Checks.due("the first", x.rests(3, 0), 0);
        Checks.due("the last", x.rests(3, 11), 143);
        for (int what : new int[] {12, 13, 143, Integer.MAX_VALUE, -2, Integer.MIN_VALUE}) {
            Checks.due("none such " + what, x.rests(3, what), -1);
        }
    }

    private static void restsTwelve() {
        Checks.edge(26, "a TICK of the next 12 (from this one on)");
        PastSleep two = many(2);
        PastSleep three = many(3);
        for (int i = 0; i < 12; i++) {
            Checks.due("both at " + i, two.rests(3, i), 13 * i);
            Checks.due("all three at " + i, three.rests(7, i), 157 * i);
        }
        Checks.due("no thirteenth", two.rests(3, 12), -1);
        Checks.due("no thirteenth", three.rests(7, 12), -1);
    }

    private static void restsLimit() {
        Checks.edge(26, "20 if his need is above limit by then");
        PastSleep x = of(2, sitter("a", 0, 9, 9) + sitter("b", 1, 9, 9));
        Checks.due("9 is not above 9: 0 and 1", x.rests(3, -1), 2);
        Checks.due("both at 1", x.rests(3, 1), 13);
        Checks.due("above 8: 0 alone", of(2, sitter("a", 0, 9, 8) + sitter("b", 1, 9, 8)).rests(3, -1), 1);
        Checks.edge(26, "20: more than 3 for each of the others");
        x = of(3, sitter("a", 0, 9, 8) + sitter("b", 1, 9, 17) + sitter("c", 2, 9, 98));
        // c at 10 alone; b at 1 (17 - 9 by 10 is 0, 1 at 0); a at 0, though both go at others
        Checks.due("one", x.rests(7, -1), 1);
        Checks.due("0, 1, 10", x.rests(7, 0), 12 + 10);
    }

    private static void restsCut() {
        Checks.edge(26, "else (limit - need) by 10, cut");
        // needs 9, limit 99: 9 9 8 7 6 5 4 3 2 1 0 0
        Checks.due("10 and 11", of(2, sitter("a", 0, 0, 9) + sitter("b", 1, 9, 99)).rests(3, -1), 2);
        Checks.due("10", of(2, sitter("a", 0, 0, 9) + sitter("b", 1, 9, 99)).rests(3, 0), 130);
        // needs 9, limit 98: at 11 above it
        Checks.due("10 alone", of(2, sitter("a", 0, 0, 9) + sitter("b", 1, 9, 98)).rests(3, -1), 1);
        // needs 1, limit 11: 1 1 0 .. 0
        Checks.due("2 to 11", of(2, sitter("a", 0, 0, 9) + sitter("b", 1, 1, 11)).rests(3, -1), 10);
        Checks.due("the first at 2", of(2, sitter("a", 0, 0, 9) + sitter("b", 1, 1, 11)).rests(3, 0), 26);
        // needs 1, limit 10: 1 0 .. 0 and 20 at 11
        Checks.due("1 to 10", of(2, sitter("a", 0, 0, 9) + sitter("b", 1, 1, 10)).rests(3, -1), 10);
        Checks.due("the first at 1", of(2, sitter("a", 0, 0, 9) + sitter("b", 1, 1, 10)).rests(3, 0), 13);
    }

    private static void restsDigits() {
        Checks.edge(26, "digits to the base of 12, the least sitter's the highest, in order");
        PastSleep x = of(2, sitter("a", 1, 9, 98) + sitter("b", 0, 9, 8));
        Checks.due("a at 10, b at 0", x.rests(3, 0), 120);
        x = of(2, sitter("b", 0, 9, 8) + sitter("a", 1, 9, 98));
        Checks.due("told the other way round", x.rests(3, 0), 10);
        x = of(5, sitter("x", 3, 0, 99) + sitter("a", 1, 9, 98) + sitter("y", 2, 0, 99) + sitter("b", 0, 9, 8));
        Checks.due("of four the second and the fourth", x.rests(10, 0), 120);
    }

    private static void restsOfThree() {
        Checks.edge(26, "each pays 3 for each of the others nearer to the aisle who chose another TICK");
        // limits make what each pays alone: a 0 at 0 alone; b 0 to 1; c at the aisle 0 to 1
        PastSleep x = of(3, sitter("a", 0, 9, 9) + sitter("b", 1, 9, 9) + sitter("c", 2, 9, 9));
        Checks.due("all at 0 or all at 1", x.rests(7, -1), 2);
        Checks.due("0, 0, 0", x.rests(7, 0), 0);
        Checks.due("1, 1, 1", x.rests(7, 1), 157);
        // b may go at 0 alone, c at 10 alone: a pays 3 with either, 6 else
        x = of(3, sitter("a", 0, 0, 9) + sitter("b", 1, 9, 8) + sitter("c", 2, 9, 98));
        Checks.due("a with b or with c", x.rests(7, -1), 2);
        Checks.due("with b", x.rests(7, 0), 10);
        Checks.due("with c", x.rests(7, 1), 144 * 10 + 10);
    }

    private static void restsThree() {
        Checks.edge(26, "each pays 3, and (limit - need) by 10: as much, more and less");
        // b at 7 alone (limit 64, needs 9); a pays 9 9 8 7 6 5 4 3 2 1 0 0: as much with b at 7 as alone at 10 or 11
        Checks.due("3 are 3", of(2, sitter("a", 0, 9, 99) + sitter("b", 1, 9, 64)).rests(3, -1), 3);
        Checks.due("with b", of(2, sitter("a", 0, 9, 99) + sitter("b", 1, 9, 64)).rests(3, 0), 7 * 12 + 7);
        Checks.due("b at 6: 4 are more than 3", of(2, sitter("a", 0, 9, 99) + sitter("b", 1, 9, 55)).rests(3, -1), 2);
        Checks.due("b at 8: 2 are less than 3", of(2, sitter("a", 0, 9, 99) + sitter("b", 1, 9, 73)).rests(3, -1), 1);
    }

    private static void restsNearer() {
        Checks.edge(26, "nearer to the aisle: by SEATS, not by numbers");
        PastSleep x = of(3, sitter("c", 2, 0, 9) + sitter("b", 1, 9, 8) + sitter("a", 0, 0, 9));
        // c at any TICK; b at 0, 3 more if c is not; a with both at 0, else with b or c
        Checks.due("c any, a with b or c", x.rests(7, -1), 1 + 2 * 11);
        Checks.due("of a and c: together", x.rests(5, -1), 12);
        Checks.due("of c and b", x.rests(3, -1), 12);
    }

    private static void restsEqual() {
        Checks.edge(26, "choices of which none would pay less by another one of his own");
        PastSleep x = of(2, sitter("a", 0, 9, 8) + sitter("b", 1, 0, 99));
        Checks.due("as much is not less: b at any", x.rests(3, -1), 12);
        Checks.due("a at 0", x.rests(3, 11), 11);
        // a pays 0 at 0 to 2, 20 else; b 1 at 0 to 1, 0 at 2 to 11
        x = of(2, sitter("a", 0, 4, 9) + sitter("b", 1, 1, 11));
        Checks.due("b at 2: a with b; b at 3 to 11: a at 0 to 2", x.rests(3, -1), 1 + 9 * 3);
    }

    private static void restsBehindTheEnd() {
        Checks.edge(26, "as if TICKS, and needs, went on behind the flight's end, too");
        PastSleep x = Checks.of("row 2 flight 1;" + sitter("a", 0, 0, 9) + sitter("b", 1, 9, 98));
        Checks.due("at 10", x.rests(3, 0), 130);
        x.ticks(1);
        Checks.due("over: at 9", x.rests(3, 0), 13 * 9);
        Checks.due("alone", x.rests(3, -1), 1);
        Checks.edge(26, "to go: though the AISLE is SHUT, or one is ASLEEP");
        Checks.due("SHUT", of(2, sitter("a", 0, 0, 9) + sitter("b", 1, 9, 98).replace("0 to 0", "0 to 72") + "belt 0 to 71;").rests(3, 0), 130);
    }

    private static void restsFromThisOne() {
        Checks.edge(26, "from this one on: need as it is now");
        PastSleep x = of(2, sitter("a", 0, 0, 9) + sitter("b", 1, 9, 98));
        for (int tick = 0; tick < 9; tick++) {
            Checks.due("at TICK " + tick, x.rests(3, 0), 13 * (10 - tick));
            x.ticks(1);
        }
        x = of(2, sitter("a", 0, 9, 8) + sitter("b", 1, 9, 98));
        x.ticks(1);
        Checks.due("above the limit at each: 20, so with b", x.rests(3, 0), 13 * 9);
        x = Checks.of("row 2 flight 30;" + sitter("a", 0, 0, 9) + sitter("b", 1, 9, 98));
        x.ticks(11);
        Checks.due("b above it at each: b at any, a with b", x.rests(3, -1), 12);
        x.ticks(19);
        Checks.due("at 199, too", x.rests(3, -1), 12);
    }

    private static void touchOthers() {
        Checks.edge(27, "false: others");
        PastSleep x = many(2);
        String ahead = Look.at(x);
        for (int far : FAR) {
            Checks.due("sitter " + far, x.touch(far, true), false);
        }
        Checks.due("the third of two", x.touch(2, false), false);
        Checks.due("nothing changes", Look.at(x), ahead);
        Checks.due("the second", x.touch(1, false), true);
        Checks.due("nobody", new PastSleep().touch(0, true), false);
    }

    private static void touchFifteen() {
        Checks.edge(27, "15 together at most; false: 15 are told");
        for (int moved = 0; moved <= 15; moved++) {
            PastSleep x = many(2);
            for (int i = 0; i < 15; i++) {
                Checks.due("touch " + i, x.touch(0, i < moved), true);
            }
            Checks.due("the sixteenth, moved", x.touch(0, true), false);
            Checks.due("the sixteenth, not", x.touch(0, false), false);
            Checks.due("the other's first", x.touch(1, true), true);
        }
    }

    private static void touchRefused() {
        Checks.edge(27, "false: 15 are told, and nothing changes");
        PastSleep x = many(1);
        for (int i = 0; i < 15; i++) {
            x.touch(0, i % 2 == 0);
        }
        String ahead = Look.at(x);
        x.touch(0, true);
        x.touch(0, false);
        Checks.due("as it was", Look.at(x), ahead);
    }

    private static void truly(PastSleep x, int who, long above, long below) {
        Checks.due("truly " + who + " above", x.truly(who, 0), above);
        Checks.due("truly " + who + " below", x.truly(who, 1), below);
    }

    /** Touches of one of a depth, and the chance by feign. */
    private static void truly(int feign, int depth, int moved, int still, long above, long below) {
        PastSleep x = of(2, Checks.sitter("a", "plain", 0, 1, 9, 9, depth, 30, 0, 0) + "feign " + feign + ";");
        for (int i = 0; i < moved; i++) {
            x.touch(0, true);
        }
        for (int i = 0; i < still; i++) {
            x.touch(0, false);
        }
        truly(x, 0, above, below);
    }

    private static void trulyOthers() {
        Checks.edge(28, "NONE: others");
        PastSleep x = many(2);
        for (int far : FAR) {
            truly(x, far, -1, -1);
        }
        truly(x, 2, -1, -1);
        truly(new PastSleep(), 0, -1, -1);
        for (int far : new int[] {Integer.MIN_VALUE, -1, 2, Integer.MAX_VALUE}) {
            Checks.due("what " + far, x.truly(0, far), -1);
        }
    }

    private static void trulyNothing() {
        Checks.edge(28, "as likely as not ahead: no touches are told");
        truly(many(2), 1, 1, 2);
        truly(0, 0, 0, 0, 1, 2);
        truly(10, 9, 0, 0, 1, 2);
    }

    private static void trulyNeither() {
        Checks.edge(28, "NONE: neither could be so");
        truly(10, 0, 0, 1, -1, -1);
        truly(10, 0, 14, 1, -1, -1);
        truly(10, 0, 15, 0, 1, 2);
        truly(9, 0, 0, 1, 1, 1);
        truly(10, 1, 0, 1, 0, 1);
        truly(0, 0, 1, 1, -1, -1);
    }

    private static void trulyEnds() {
        Checks.edge(28, "a feigner moves with feign of ten, a sleeper with 10 - DEPTH as told: 0 and 10 of ten");
        truly(0, 5, 1, 0, 0, 1);
        truly(0, 5, 0, 1, 2, 3);
        truly(10, 5, 0, 1, 0, 1);
        truly(10, 5, 1, 0, 2, 3);
        truly(1, 9, 1, 0, 1, 2);
        truly(9, 9, 1, 0, 9, 10);
        truly(9, 9, 0, 1, 1, 10);
    }

    private static void trulyMost() {
        Checks.edge(28, "long truly: 15 touches");
        long nine = 205891132094649L;
        long ten = 1000000000000000L;
        truly(9, 0, 15, 0, nine, nine + ten);
        truly(1, 0, 0, 15, 1, 1);
        truly(0, 9, 0, 15, ten, nine + ten);
        truly(1, 9, 0, 15, 1, 2);
        truly(10, 0, 15, 0, 1, 2);
        truly(10, 1, 15, 0, ten, nine + ten);
        truly(9, 9, 15, 0, nine, nine + 1);
        truly(1, 0, 15, 0, 1, 1 + ten);
    }

    private static void trulyLowest() {
        Checks.edge(28, "in lowest terms");
        truly(8, 5, 1, 0, 8, 13);
        truly(8, 6, 1, 0, 2, 3);
        truly(8, 6, 2, 0, 4, 5);
        truly(6, 4, 3, 2, 1, 2);
        truly(5, 9, 1, 1, 25, 34);
        truly(4, 6, 0, 1, 1, 2);
    }

    private static void trulyAsTold() {
        Checks.edge(28, "10 - DEPTH as told: of whichever KIND");
        for (String kind : new String[] {"plain", "drinker", "light", "tall", "feigner"}) {
            PastSleep x = of(2, Checks.sitter("a", kind, 0, 1, 9, 9, 8, 30, 0, 0) + "wake 3;");
            x.touch(0, true);
            truly(x, 0, 9, 11);
            x.touch(0, false);
            truly(x, 0, 9, 25);
        }
        Checks.edge(28, "touches told of one");
        PastSleep x = many(3);
        x.touch(1, true);
        truly(x, 0, 1, 2);
        truly(x, 1, 9, 14);
        truly(x, 2, 1, 2);
    }

    private static void wentOthers() {
        Checks.edge(29, "false: others");
        PastSleep x = many(2);
        String ahead = Look.at(x);
        for (int far : FAR) {
            Checks.due("sitter " + far, x.went(far, 5), false);
        }
        Checks.due("the third of two", x.went(2, 5), false);
        Checks.due("nothing changes", Look.at(x), ahead);
        Checks.due("the second", x.went(1, 5), true);
        Checks.due("nobody", new PastSleep().went(0, 5), false);
    }

    private static void wentTicks() {
        Checks.edge(29, "WENT at a TICK (0 to 71 ..)");
        for (int wrong : new int[] {Integer.MIN_VALUE, -2, -1, 72, 73, Integer.MAX_VALUE}) {
            Checks.due("at " + wrong, many(2).went(0, wrong), false);
        }
        Checks.due("at 0", many(2).went(0, 0), true);
        Checks.due("at 71, though the flight has 9", many(2).went(0, 71), true);
        PastSleep x = many(2);
        x.ticks(9);
        Checks.due("whichever TICK it is", x.went(0, 0), true);
    }

    private static void wentLater() {
        Checks.edge(29, "later than those told");
        PastSleep x = many(2);
        Checks.due("5", x.went(0, 5), true);
        Checks.due("5 again", x.went(0, 5), false);
        Checks.due("4", x.went(0, 4), false);
        Checks.due("0", x.went(0, 0), false);
        Checks.due("6", x.went(0, 6), true);
        Checks.due("5", x.went(0, 5), false);
        Checks.due("of another", x.went(1, 0), true);
        Checks.due("71", x.went(0, 71), true);
        Checks.due("71 again", x.went(0, 71), false);
        Checks.due("none is later", x.went(0, 72), false);
    }

    private static void wentTwelve() {
        Checks.edge(29, "12 at most; false: 12 are told");
        PastSleep x = many(2);
        for (int i = 0; i < 12; i++) {
            Checks.due("the " + i + "-th", x.went(0, 3 * i), true);
        }
        Checks.due("the thirteenth", x.went(0, 36), false);
        Checks.due("the thirteenth", x.went(0, 71), false);
        for (int i = 0; i < 12; i++) {
            Checks.due("of another", x.went(1, 60 + i), true);
        }
        Checks.due("the thirteenth", x.went(1, 71), false);
    }

    private static void wentRefused() {
        Checks.edge(29, "false: and nothing changes");
        PastSleep x = many(2);
        x.went(0, 2);
        x.went(0, 5);
        String ahead = Look.at(x);
        x.went(0, 5);
        x.went(0, 72);
        x.went(0, -1);
        x.went(2, 8);
        Checks.due("as it was", Look.at(x), ahead);
        for (int i = 2; i < 12; i++) {
            x.went(0, 3 * i + 2);
        }
        ahead = Look.at(x);
        x.went(0, 38);
        Checks.due("12 are told: as it was", Look.at(x), ahead);
        Checks.due("all fit", x.fits(0, 0), 45);
    }

    private static void fits(PastSleep x, int who, int many, int first) {
        Checks.due("fits " + who, x.fits(who, 0), many);
        Checks.due("the first of " + who, x.fits(who, 1), first);
    }

    private static PastSleep went(int... ticks) {
        PastSleep x = many(2);
        for (int tick : ticks) {
            Checks.due("went", x.went(0, tick), true);
        }
        return x;
    }

    private static void fitsOthers() {
        Checks.edge(30, "NONE: others");
        PastSleep x = went(2);
        for (int far : FAR) {
            fits(x, far, -1, -1);
        }
        fits(x, 2, -1, -1);
        fits(new PastSleep(), 0, -1, -1);
        for (int far : new int[] {Integer.MIN_VALUE, -1, 2, Integer.MAX_VALUE}) {
            Checks.due("what " + far, x.fits(0, far), -1);
        }
        fits(x, 0, 45, 102);
    }

    private static void fitsNothing() {
        Checks.edge(30, "NONE: nothing is told");
        fits(many(2), 0, -1, -1);
        fits(went(2), 1, -1, -1);
    }

    private static void fitsNone() {
        Checks.edge(30, "NONE: none");
        fits(went(0), 0, -1, -1);
        fits(went(0, 1), 0, -1, -1);
        fits(went(2, 3), 0, -1, -1);
        fits(went(2, 4), 0, -1, -1);
        fits(went(2, 6), 0, -1, -1);
        fits(went(2, 5, 9), 0, -1, -1);
    }

    private static void fitsBounds() {
        Checks.edge(30, "pairs of needs (0 to 9) and goes (1 to 99): need is goes at least for the first time");
        fits(went(1), 0, 45, 101);
        fits(went(10), 0, 45, 110);
        fits(went(11), 0, 45, 111);
        fits(went(12), 0, 36, 112);
        fits(went(49), 0, 3, 149);
        fits(went(50), 0, 2, 150);
        fits(went(51), 0, 1, 151);
        fits(went(71), 0, 1, 171);
        fits(went(33), 0, 6, 133);
        fits(went(34), 0, 3, 134);
    }

    private static void fitsAgain() {
        Checks.edge(30, "at just each of these (back in the next TICK with 0)");
        fits(went(1, 3), 0, 45, 101);
        fits(went(1, 3, 5, 7), 0, 45, 101);
        fits(went(1, 4), 0, -1, -1);
        fits(went(11, 23), 0, 45, 111);
        fits(went(11, 22), 0, -1, -1);
        fits(went(11, 24), 0, -1, -1);
        fits(went(35, 71), 0, 3, 135);
        fits(went(34, 69), 0, 3, 134);
        Checks.edge(30, "later than the last of these nothing is told");
        fits(went(2, 5), 0, 45, 102);
    }

    private static void fitsPlain() {
        Checks.edge(30, "as a plain one, the AISLE never SHUT");
        for (String kind : new String[] {"plain", "drinker", "light", "tall", "feigner"}) {
            PastSleep x = of(2, Checks.sitter("a", kind, 0, 9, 1, 99, 8, 30, 0, 72) + "belt 0 to 71;queue 9;");
            x.went(0, 12);
            fits(x, 0, 36, 112);
        }
    }

    private static void fitsTwelve() {
        Checks.edge(30, "WENT: 12 at most: all of them count");
        PastSleep x = many(2);
        for (int i = 1; i <= 12; i++) {
            Checks.due("told", x.went(0, 6 * i - 1), true);
            fits(x, 0, 45, 105);
        }
        x = many(2);
        for (int i = 1; i <= 11; i++) {
            x.went(0, 6 * i - 1);
        }
        Checks.due("one TICK early", x.went(0, 70), true);
        fits(x, 0, -1, -1);
    }
}
