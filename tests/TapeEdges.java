/** The edges of promises 1 to 3: a new object, the TAPE, the CABIN with its FAULTS. */
public final class TapeEdges {
    private static final String ROW = "row 3 flight 9;";
    private static final String ANN = Checks.sitter("ann", "plain", 0, 1, 9, 5, 3, 30, 0, 4);
    private static final String[] WORDS = ("row flight sitter at needs limit goes depth legs sleeps to cup belt trolley gap"
        + " price feign wake spill queue plain drinker light tall feigner not and or").split(" ");

    public static void main(String[] args) {
        newObject();
        fiveHundredAndTwelve();
        signs();
        order();
        twentyFour();
        thousand();
        taken();
        tokens();
        blanks();
        place();
        rowFirst();
        rowNumbers();
        names();
        kinds();
        sitterNumbers();
        takenSeats();
        cups();
        shuts();
        fiveShuts();
        onceEach();
        onceNumbers();
        anyOrder();
        everyToken();
        leftOutOrTwice();
        facts();
        joins();
        within();
        wraps();
        so();
        least();
        withoutLaws();
        begins();
        stays();
        Checks.end();
    }

    private static void newObject() {
        Checks.edge(1, "Row 2 flight 1. At first: row 2 flight 1, nobody.");
        PastSleep x = new PastSleep();
        int[] due = {2, 1, 0, 0, 0, 0, 0, 0, 0, 11, 0, 0};
        for (int what = 0; what < due.length; what++) {
            Checks.due("count " + what, x.count(what), due[what]);
        }
        for (int seat = 0; seat < 2; seat++) {
            Checks.due("nobody's SEAT " + seat, x.seat(seat, 0), -1);
            Checks.due("no cup", x.seat(seat, 1), 0);
            Checks.due("nobody is in it", x.seat(seat, 2), 0);
        }
        Checks.due("no third SEAT", x.seat(2, 1), -1);
        Checks.due("TICK 0 is not SHUT", x.shut(0), 0);
        Checks.due("no TICK 1", x.shut(1), -1);
        Checks.due("nobody", x.sitter(0, 0), -1);
        Checks.due("nothing to undo", x.undo(), false);
        for (int mark = 0; mark < 4; mark++) {
            Checks.due("no MARK is laid", x.mark(mark, true), false);
        }
        Checks.due("the TAPE is empty", x.cabin(), 1);
        Checks.due("one TICK", x.ticks(72), 1);
        PastSleep y = new PastSleep();
        Checks.cabin(y, "row 5 flight 72;" + ANN);
        Checks.due("another object's", new PastSleep().count(0), 2);
        Checks.due("stays its own", y.count(0), 5);
    }

    private static void fiveHundredAndTwelve() {
        Checks.edge(1, "An object is used for at most 512 calls");
        PastSleep x = new PastSleep();
        for (int i = 0; i < 4; i++) {
            x.feed(Checks.eight("row 2 flight 9; ", 0), Checks.eight("row 2 flight 9; ", 8), 0);
            x.cabin();
        }
        for (int i = 8; i < 508; i++) {
            x.mark(i % 4, i % 3 == 0);
        }
        Checks.due("call 509", x.feed(Checks.eight("row 4 flight 7; ", 0), Checks.eight("row 4 flight 7; ", 8), 0), 16);
        Checks.due("call 510", x.cabin(), 0);
        Checks.due("call 511", x.ticks(7), 7);
        Checks.due("call 512", x.count(0), 4);
    }

    private static void signs() {
        Checks.edge(2, "others than 10 and 32 .. 126 are left out: how many there are");
        PastSleep x = new PastSleep();
        int many = 0;
        for (int sign = 0; sign < 256; sign++) {
            many += sign == 10 || sign >= 32 && sign <= 126 ? 1 : 0;
            Checks.due("sign " + sign, x.feed((long) sign << 8 * (sign % 8), 0, 0), many);
        }
        Checks.due("96 of 256", x.count(11), 96);
        Checks.due("none", x.feed(0, 0, 0), 96);
        Checks.due("none of eight", new PastSleep().feed(0x00091f7f80ff0b0dL, 0, 0), 0);
        Checks.due("of b", new PastSleep().feed(0, 0x090a1f207e7f80ffL, 0), 3);
        Checks.due("of c", new PastSleep().feed(0, 0, 0x090a1f207e7f80ffL), 3);
        Checks.due("none of 24", new PastSleep().feed(-1, -1, -1), 0);
    }

    private static void order() {
        Checks.edge(2, "the bytes of a, b, c, of each the highest first");
        PastSleep x = new PastSleep();
        Checks.due("a's lowest, b's highest, c's in between", x.feed('r', (long) 'o' << 56, (long) 'w' << 32), 3);
        Checks.due("behind the TAPE", x.feed(Checks.eight("4 flight", 0), Checks.eight(" 63;", 0), 0), 15);
        Checks.due("read", x.cabin(), 0);
        Checks.due("SEATS", x.count(0), 4);
        Checks.due("TICKS", x.count(1), 63);
        x.feed(Checks.eight("row 2 fl", 0), Checks.eight("ight 12;", 0), Checks.eight("gap 19 ;", 0));
        Checks.due("three times eight", x.cabin(), 0);
        Checks.due("12", x.count(1), 12);
        Checks.due("19", x.count(9), 19);
    }

    private static void twentyFour() {
        Checks.edge(2, "Up to 24 signs come behind the TAPE");
        PastSleep x = new PastSleep();
        long all = 0x4141414141414141L;
        Checks.due("24", x.feed(all, all, all), 24);
        Checks.due("24 more", x.feed(all, all, all), 48);
        Checks.due("one", x.feed(0x41, 0, 0), 49);
        Checks.due("none", x.feed(0, 0, 0), 49);
    }

    private static void thousand() {
        Checks.edge(2, "what is beyond 1,000 is left out");
        String row = "row 2 flight 3;";
        PastSleep x = new PastSleep();
        Checks.due("984", Checks.feed(x, " ".repeat(984)), 984);
        long full = Checks.eight("        ", 0);
        Checks.due("of 24 the first 16", x.feed(full, full, full), 1000);
        Checks.due("full", x.feed(full, 0, 0), 1000);
        Checks.due("full", x.feed(0x41, 0x41, 0x41), 1000);
        Checks.due("end at 1,000", x.cabin(), 1 + 16 * 1000);
        Checks.due("the last sign is the 1,000th", Checks.cabin(x, " ".repeat(985) + row + "%%%%"), 0);
        Checks.due("flight 3", x.count(1), 3);
        Checks.due("the last sign is beyond", Checks.cabin(x, " ".repeat(986) + row), 1 + 16 * 1000);
        Checks.due("999 and two more", Checks.feed(x, "\n".repeat(999) + "r%"), 1000);
        Checks.due("the 1,000th is there", x.cabin(), 1 + 16 * 999);
    }

    private static void taken() {
        Checks.edge(3, "what reads it takes it: it is empty then");
        PastSleep x = new PastSleep();
        Checks.feed(x, ROW);
        Checks.due("it reads", x.cabin(), 0);
        Checks.due("empty", x.count(11), 0);
        Checks.due("nothing is left of it", x.cabin(), 1);
        Checks.feed(x, "row 3 flight 9 9");
        Checks.due("with a FAULT", x.cabin(), 1 + 16 * 15);
        Checks.due("empty, too", x.count(11), 0);
        Checks.due("from the first sign again", x.feed(0x41, 0, 0), 1);
        x.ticks(1);
        x.mark(0, false);
        x.mark(0, true);
        Checks.due("nothing else takes it", x.count(11), 1);
    }

    private static void tokens() {
        Checks.edge(3, "TOKENS, each as long as can be: WORDS (letters a .. z, 8 at most)");
        Checks.of(ROW + ANN.replace("ann", "abcdefgh"));
        Checks.of(ROW + ANN.replace("ann", "a"));
        Checks.fault(ROW + ANN.replace("ann", "abcdefghi"), 1, ROW.length() + 7);
        Checks.fault(ROW + ANN.replace("ann", "annannannannannannann"), 1, ROW.length() + 7);
        Checks.fault(ROW + "cupcup 1;", 1, 15);
        Checks.fault(ROW + "c up 1;", 1, 15);
        Checks.fault("rowflight 3;", 1, 0);
        Checks.fault("rows 3 flight 9;", 1, 0);
        Checks.fault("ro 3 flight 9;", 1, 0);
        Checks.fault("Row 3 flight 9;", 1, 0);
        Checks.fault("row 3 flight 9;cup1 Cup 2;", 1, 20);
        Checks.of(ROW + ANN.replace("ann", "az") + ANN.replace("ann", "za").replace("at 0", "at 1"));
        Checks.edge(3, "NUMBERS (1 to 4 digits; a letter may stand right behind)");
        Checks.of(ROW + "cup 1;");
        Checks.of(ROW + "cup 0001;");
        Checks.fault(ROW + "cup 00001;", 1, 19);
        Checks.fault(ROW + "cup 10000;", 1, 19);
        Checks.fault(ROW + "cup 9999;", 4, 19);
        Checks.fault(ROW + "cup 1234567890123456789;", 1, 19);
        Checks.of("row3flight9;belt1to2;cup0;");
        Checks.fault("row 3 flight 9a;", 1, 14);
        Checks.of(ROW + "wake 0123+4567+8+9999;");
        Checks.edge(3, "the signs ( ) < = + - * ;  All else is none");
        Checks.of(ROW + "wake (1)<2 and 1=2+3-4*5;");
        for (char sign = 33; sign < 127; sign++) {
            boolean sure = "()<=+-*;".indexOf(sign) >= 0 || sign >= '0' && sign <= '9' || sign >= 'a' && sign <= 'z';
            if (!sure) {
                Checks.fault(ROW + "wake 1" + sign + "1;", 1, ROW.length() + 6);
            }
        }
    }

    private static void blanks() {
        Checks.edge(3, "blanks (10, 32) between where one likes");
        Checks.of(" \n row \n\n 3  flight\n9 \n ;\n\n  ");
        Checks.of("\nrow3flight9;wake(1)<2and(1=2)or not(depth);");
        Checks.of(ROW + "wake 1 + ( \n depth * \n legs ) ;");
        Checks.fault(ROW + "cup 0 1;", 1, 21);
        Checks.fault(ROW + "c\nup 1;", 1, 15);
    }

    private static void place() {
        Checks.edge(3, "the place (from 0) of a token, the end being one at the text's length");
        Checks.fault("", 1, 0);
        Checks.fault(" ", 1, 1);
        Checks.fault(" \n \n", 1, 4);
        Checks.fault("row", 1, 3);
        Checks.fault("row  ", 1, 5);
        Checks.fault("  x", 1, 2);
        Checks.fault("row 3 flight 9", 1, 14);
        Checks.fault(ROW + ANN + "gap", 1, ROW.length() + ANN.length() + 3);
        Checks.fault(ROW + "wake (1+2", 1, 24);
        Checks.fault(ROW + " ".repeat(980) + "cup 7", 4, 999);
        Checks.fault(ROW + " ".repeat(980) + "cup 77", 4, 999);
        Checks.fault(ROW + " ".repeat(980) + "cup 2", 1, 1000);
    }

    private static void rowFirst() {
        Checks.edge(3, "another line than row first, row again");
        String[] lines = {"cup 0;", "belt 0 to 1;", "trolley 0 to 1;", "gap 9;", "price 1 1 1 1;", "feign 1;", "wake 1;",
            "spill 1;", "queue 1;", ANN};
        for (String line : lines) {
            Checks.fault(line + ROW, 1, 0);
            Checks.fault(ROW + line + ROW, 1, ROW.length() + line.length());
            Checks.of(ROW + line);
        }
        Checks.fault(ROW + ROW, 1, ROW.length());
        Checks.fault("flight 9;", 1, 0);
        Checks.fault(";" + ROW, 1, 0);
        Checks.fault(ROW + ";", 1, ROW.length());
        Checks.edge(3, "then any number of lines: none, too");
        Checks.due("nobody", Checks.of(ROW).count(2), 0);
    }

    /** A NUMBER told as #: both ends are taken, what is next to them on the other side is FAULT 4. */
    private static void numbers(String text, int least, int most) {
        int place = text.indexOf('#');
        for (int number : new int[] {least, most, (least + most) / 2}) {
            Checks.of(text.replace("#", "" + number));
        }
        if (least > 0) {
            Checks.fault(text.replace("#", "" + (least - 1)), 4, place);
            Checks.fault(text.replace("#", "0"), 4, place);
        }
        if (most < 9999) {
            Checks.fault(text.replace("#", "" + (most + 1)), 4, place);
            Checks.fault(text.replace("#", "9999"), 4, place);
        }
        for (String other : new String[] {"10000", "ann", "-1", "%", "(", ";", "not"}) {
            Checks.fault(text.replace("#", other), 1, place);
        }
        Checks.fault(text.substring(0, place), 1, place);
        Checks.of(text.replace("#", ("0000" + most).substring(("" + most).length())));
    }

    private static void rowNumbers() {
        Checks.edge(3, "SEATS 2 to 5; TICKS 1 to 72");
        numbers("row # flight 9;", 2, 5);
        numbers("row 2 flight #;", 1, 72);
        for (int seats = 2; seats <= 5; seats++) {
            Checks.due("SEATS", Checks.of("row " + seats + " flight 1;").count(0), seats);
        }
        Checks.due("a flight of 1", Checks.of("row 2 flight 1;").count(1), 1);
        Checks.due("a flight of 72", Checks.of("row 2 flight 72;").count(1), 72);
    }

    private static void names() {
        Checks.edge(3, "A NAME is another WORD than row, flight .. and, or");
        for (String word : WORDS) {
            Checks.fault(ROW + ANN.replace("ann", word), 1, ROW.length() + 7);
            Checks.of(ROW + ANN.replace("ann", word.substring(0, word.length() - 1) + "q"));
        }
        for (String name : "tick asked side out rows lights abcdefgh z".split(" ")) {
            Checks.of(ROW + ANN.replace("ann", name));
        }
        for (String other : "5 ( ; % abcdefghi".split(" ")) {
            Checks.fault(ROW + ANN.replace("ann", other), 1, ROW.length() + 7);
        }
        Checks.edge(3, "no two are alike: a NAME told already");
        int at = ROW.length() + ANN.length() + 7;
        Checks.fault(ROW + ANN + ANN, 3, at);
        Checks.fault(ROW + ANN + "sitter ann", 3, at);
        Checks.fault(ROW + ANN + "sitter ann dark at 9", 3, at);
        Checks.of(ROW + ANN + ANN.replace("ann", "anna").replace("at 0", "at 1") + ANN.replace("ann", "an").replace("at 0", "at 2"));
        String five = "row 5 flight 9;";
        for (int i = 0; i < 5; i++) {
            five += ANN.replace("ann", "n" + (char) ('a' + i)).replace("at 0", "at " + i);
        }
        Checks.of(five);
        for (int i = 0; i < 5; i++) {
            Checks.fault(five + "sitter n" + (char) ('a' + i), 3, five.length() + 7);
        }
        Checks.fault(five + "sitter nf plain at 0", 3, five.length() + 19);
        Checks.fault(five + "sitter nf plain at 5", 4, five.length() + 19);
        for (String alike : new String[] {"a aa aaa aaaa aaaaa", "z zz az za zaz", "abcdefgh bcdefgh abcdefg abcdefgi bbcdefgh", "q b qb bq bqb"}) {
            String all = five;
            for (int i = 0; i < 5; i++) {
                all = all.replace("sitter n" + (char) ('a' + i), "sitter " + alike.split(" ")[i]);
            }
            Checks.of(all);
        }
        Checks.edge(3, "Without a FAULT it is the CABIN: a NAME of the last one may be told again");
        PastSleep x = Checks.of(ROW + ANN);
        Checks.due("ann again", Checks.cabin(x, ROW + ANN), 0);
        Checks.due("in one with a FAULT", Checks.cabin(x, ROW + ANN + ANN), 3 + 16 * at);
        Checks.due("and again", Checks.cabin(x, ROW + ANN), 0);
    }

    private static void kinds() {
        Checks.edge(3, "KIND: plain, drinker, light, tall, feigner");
        String[] kinds = {"plain", "drinker", "light", "tall", "feigner"};
        for (int kind = 0; kind < 5; kind++) {
            Checks.due(kinds[kind], Checks.of(ROW + ANN.replace("plain", kinds[kind])).sitter(0, 0), kind);
        }
        for (String other : "queue not dark 3 ; % plains".split(" ")) {
            Checks.fault(ROW + ANN.replace("plain", other), 1, ROW.length() + 11);
        }
    }

    private static void sitterNumbers() {
        Checks.edge(3, "needs 0 to 9; limit, goes 1 to 99 each; depth 0 to 9; legs 20 to 40");
        numbers(ROW + ANN.replace("needs 1", "needs #"), 0, 9);
        numbers(ROW + ANN.replace("limit 9", "limit #"), 1, 99);
        numbers(ROW + ANN.replace("goes 5", "goes #"), 1, 99);
        numbers(ROW + ANN.replace("depth 3", "depth #"), 0, 9);
        numbers(ROW + ANN.replace("legs 30", "legs #"), 20, 40);
        Checks.edge(3, "sleeps: TICKS 0 to 72, the second one no less");
        numbers(ROW + ANN.replace("0 to 4", "# to 72"), 0, 72);
        numbers(ROW + ANN.replace("0 to 4", "0 to #"), 0, 72);
        numbers(ROW + ANN.replace("0 to 4", "5 to #"), 5, 72);
        numbers(ROW + ANN.replace("0 to 4", "72 to #"), 72, 72);
        Checks.edge(3, "sitter: at a SEAT: numbered from the window, so from 0");
        numbers(ROW + ANN.replace("at 0", "at #"), 0, 2);
        numbers("row 2 flight 1;" + ANN.replace("at 0", "at #"), 0, 1);
        numbers("row 5 flight 1;" + ANN.replace("at 0", "at #"), 0, 4);
    }

    private static void takenSeats() {
        Checks.edge(3, "sitter: at a SEAT without one: a SEAT that is taken (at)");
        String bob = ANN.replace("ann", "bob");
        Checks.fault(ROW + ANN + bob, 3, ROW.length() + ANN.length() + bob.indexOf("0 needs"));
        Checks.fault(ROW + ANN + "sitter bob plain at 0", 3, ROW.length() + ANN.length() + 20);
        Checks.fault(ROW + ANN + "sitter bob plain at 0000 x", 3, ROW.length() + ANN.length() + 20);
        Checks.of(ROW + ANN + bob.replace("at 0", "at 1"));
        Checks.edge(3, "numbered as told");
        PastSleep x = Checks.of(ROW + ANN.replace("at 0", "at 2") + bob + ANN.replace("ann", "cat").replace("at 0", "at 1"));
        Checks.due("ann", x.seat(2, 0), 0);
        Checks.due("bob", x.seat(0, 0), 1);
        Checks.due("cat", x.seat(1, 0), 2);
        Checks.due("all three", x.count(2), 3);
    }

    private static void cups() {
        Checks.edge(3, "cup: on the table of a SEAT, once each");
        numbers(ROW + "cup #;", 0, 2);
        numbers("row 2 flight 1;cup #;", 0, 1);
        numbers("row 5 flight 1;cup #;", 0, 4);
        Checks.due("on each", Checks.of(ROW + "cup 2;cup 0;cup 1;").count(8), 3);
        Checks.fault(ROW + "cup 2;cup 0;cup 2;", 3, ROW.length() + 16);
        Checks.fault(ROW + "cup 2;cup 2", 3, ROW.length() + 10);
        Checks.of(ROW + ANN + "cup 0;");
        Checks.of(ROW + "cup 0;" + ANN);
    }

    private static void shuts() {
        Checks.edge(3, "belt, trolley: from one TICK (0 to 71) to another one (no less, to 71), both too");
        for (String word : new String[] {"belt", "trolley"}) {
            numbers(ROW + word + " # to 71;", 0, 71);
            numbers(ROW + word + " 0 to #;", 0, 71);
            numbers(ROW + word + " 5 to #;", 5, 71);
            numbers(ROW + word + " 71 to #;", 71, 71);
            PastSleep x = Checks.of("row 2 flight 72;" + word + " 3 to 5;" + word + " 0 to 0;" + word + " 71 to 71;");
            int[] ticks = {0, 1, 2, 3, 4, 5, 6, 70, 71};
            int[] due = {1, 0, 0, 1, 1, 1, 0, 0, 1};
            for (int i = 0; i < ticks.length; i++) {
                Checks.due(word + " at " + ticks[i], x.shut(ticks[i]), due[i]);
            }
        }
    }

    private static void fiveShuts() {
        Checks.edge(3, "4 at most of each: the words belt, trolley of a fifth");
        String belts = "belt 0 to 0;".repeat(4);
        String trolleys = "trolley 0 to 0;".repeat(4);
        String both = ROW + belts + trolleys;
        Checks.of(both);
        Checks.fault(ROW + belts + "belt 0 to 0;", 5, ROW.length() + belts.length());
        Checks.fault(ROW + trolleys + "trolley 0 to 0;", 5, ROW.length() + trolleys.length());
        Checks.fault(both + "belt", 5, both.length());
        Checks.fault(both + "trolley 99 to", 5, both.length());
        Checks.fault(both + "belts", 1, both.length());
    }

    private static void onceEach() {
        Checks.edge(3, "gap, price, feign, wake, spill, queue: once each; a second time");
        String[] lines = {"gap 5;", "price 0 0 0 0;", "feign 0;", "wake 1;", "spill 1;", "queue 1;"};
        StringBuilder all = new StringBuilder(ROW);
        for (String line : lines) {
            all.append(line);
        }
        Checks.of(all.toString());
        for (String line : lines) {
            Checks.fault(all + line, 3, all.length());
            Checks.fault(all + line.split(" ")[0], 3, all.length());
            Checks.fault(all + line.split(" ")[0] + " %", 3, all.length());
        }
        Checks.due("told in one, it may be told in the next", Checks.cabin(Checks.of(all.toString()), all.toString()), 0);
    }

    private static void onceNumbers() {
        Checks.edge(3, "gap 5 to 20 (11). feign 0 to 10 (9). price: 0 to 99 each (1 each)");
        numbers(ROW + "gap #;", 5, 20);
        numbers(ROW + "feign #;", 0, 10);
        numbers(ROW + "price # 0 0 0;", 0, 99);
        numbers(ROW + "price 99 # 99 99;", 0, 99);
        numbers(ROW + "price 99 99 # 99;", 0, 99);
        numbers(ROW + "price 0 0 0 #;", 0, 99);
        Checks.fault(ROW + "price 1 2 3;", 1, ROW.length() + 11);
        Checks.fault(ROW + "price 1 2 3 4 5;", 1, ROW.length() + 14);
        Checks.fault(ROW + "gap 5 6;", 1, ROW.length() + 6);
        Checks.due("without a gap", Checks.of(ROW).count(9), 11);
        Checks.due("the least gap", Checks.of(ROW + "gap 5;").count(9), 5);
        Checks.due("the most", Checks.of(ROW + "gap 20;").count(9), 20);
        PastSleep x = Checks.of(ROW + ANN);
        x.touch(0, true);
        Checks.due("without feign 9 of 9 + 7", x.truly(0, 0), 9);
        Checks.due("without feign 9 of 9 + 7", x.truly(0, 1), 16);
    }

    private static void anyOrder() {
        Checks.edge(3, "then any number of lines, in any order");
        String[] lines = {"queue 1;", "cup 1;", "wake 2;", ANN, "belt 0 to 1;", "spill 3;", "price 1 2 3 4;", "trolley 2 to 2;",
            "feign 3;", "gap 9;"};
        for (int turn = 0; turn < lines.length; turn++) {
            StringBuilder all = new StringBuilder(ROW);
            for (int i = 0; i < lines.length; i++) {
                all.append(lines[(i + turn) % lines.length]);
            }
            PastSleep x = Checks.of(all.toString());
            Checks.due("WAKING", x.odds(0, 0), 2);
            Checks.due("SPILLING", x.odds(0, 2), 3);
            Checks.due("gap", x.count(9), 9);
            Checks.due("SHUT", x.shut(2), 1);
        }
    }

    /** Each token of a CABIN that has all is put wrong, and the CABIN is cut ahead of it. */
    private static void everyToken() {
        Checks.edge(3, "1: it is none, or can't stand there; the end being one");
        String text = ROW + ANN + "cup 0;belt 1 to 2;trolley 3 to 4;gap 6;price 1 2 3 4;feign 5;"
            + "wake not depth+(legs-cup)*asked<tick and 1;spill gap=side or 7;queue out*2+1;";
        String spaced = text.replaceAll("([-();<=+*])", " $1 ").replaceAll(" +", " ").strip();
        Checks.of(spaced);
        boolean cut = false;
        for (int at = 0; at < spaced.length(); at = spaced.indexOf(' ', at) < 0 ? spaced.length() : spaced.indexOf(' ', at) + 1) {
            String ahead = spaced.substring(0, at);
            for (String wrong : new String[] {"%", "abcdefghi", "12345", "{ 1", "word"}) {
                boolean name = ahead.endsWith("sitter ") && wrong.equals("word");
                if (!name) {
                    Checks.fault(ahead + wrong, 1, at);
                }
            }
            if (ahead.endsWith("; ")) {
                cut = true;
                Checks.of(ahead);
            } else {
                Checks.fault(ahead, 1, at);
            }
        }
        Checks.due("lines", cut, true);
    }

    /** Each token but those of the E's is left out, and told twice: what stands there then can't. */
    private static void leftOutOrTwice() {
        Checks.edge(3, "1: it can't stand there: a token is left out, or told twice");
        String text = "row 3 flight 9 ; sitter ann plain at 0 needs 1 limit 9 goes 5 depth 3 legs 30 sleeps 0 to 4 ; cup 0 ; belt 1 to 2 ;"
            + " trolley 3 to 4 ; gap 6 ; feign 5 ; wake 1 ; spill 1 ; queue 1 ;";
        String[] all = text.split(" ");
        Checks.of(text);
        for (int out = 0; out < all.length; out++) {
            StringBuilder left = new StringBuilder();
            StringBuilder twice = new StringBuilder();
            int place = 0;
            for (int i = 0; i < all.length; i++) {
                place = i == out ? left.length() : place;
                left.append(i == out ? "" : all[i] + " ");
                twice.append(all[i]).append(' ').append(i == out ? all[i] + " " : "");
            }
            Checks.fault(left.toString(), 1, place);
            Checks.fault(twice.toString(), 1, place + all[out].length() + 1);
        }
        Checks.fault(ROW + "1 2 3 4;", 1, ROW.length());
        Checks.fault(ROW + "price price 1 2 3 4;", 1, ROW.length() + 6);
        Checks.fault(ROW + "price 1 2 3 4 gap 9;", 1, ROW.length() + 14);
    }

    private static void facts() {
        Checks.edge(3, "Facts: tick; in wake and spill depth, legs, cup, asked; in spill also gap, side; in queue also out");
        String[] laws = {"wake", "spill", "queue"};
        String[] right = {" tick depth legs cup asked ", " tick depth legs cup asked gap side ", " tick out "};
        String all = "tick depth legs cup asked gap side out ann plain needs limit goes row flight feign price";
        for (int i = 0; i < laws.length; i++) {
            for (String fact : all.split(" ")) {
                String text = ROW + ANN + laws[i] + " " + fact + ";";
                if (right[i].contains(" " + fact + " ")) {
                    Checks.of(text);
                } else {
                    Checks.fault(text, 1, text.length() - fact.length() - 1);
                }
            }
        }
    }

    private static void joins() {
        Checks.edge(3, "E: TEST { and TEST or or TEST }; TEST: SUM, or SUM < SUM, or SUM = SUM");
        int at = ROW.length() + 5;
        Checks.of(ROW + "wake 1<2 and 2=3 or 3<4 and 4;");
        for (String two : "1<2<3 1<2=3 1=2<3 1=2=3".split(" ")) {
            Checks.fault(ROW + "wake " + two + ";", 1, at + 3);
            Checks.of(ROW + "wake (" + two.substring(0, 3) + ")" + two.substring(3) + ";");
        }
        String[] wrongs = {"", "1 and", "1 or", "1<", "1=", "1+", "1-", "1*", "(", "(1", "not", "()", "-1", "+1", "1 2", "1)",
            "and 1", "1 and or 1", "1++1", "1 not 1", "(1))", "1(2)"};
        int[] places = {0, 5, 4, 2, 2, 2, 2, 2, 1, 2, 3, 1, 0, 0, 2, 1, 0, 6, 2, 2, 3, 1};
        for (int i = 0; i < wrongs.length; i++) {
            Checks.fault(ROW + "wake " + wrongs[i] + ";", 1, at + places[i]);
        }
        Checks.edge(3, "as long as the TAPE: no bound on TESTS, SUMS, PRODUCTS");
        Checks.due("0 plus 440 times 0 and 7", Checks.of(ROW + ANN + "wake 0" + "+0".repeat(440) + "+7;").odds(0, 0), 7);
        Checks.due("7 times 430 times 1", Checks.of(ROW + ANN + "wake 7" + "*1".repeat(430) + ";").odds(0, 0), 7);
        Checks.due("and", Checks.of(ROW + ANN + "wake 7" + " and 1".repeat(140) + ";").odds(0, 0), 1);
        Checks.due("or", Checks.of(ROW + ANN + "wake 0" + " or 0".repeat(140) + ";").odds(0, 0), 0);
    }

    private static void within() {
        Checks.edge(3, "no PART lies within 5 of not and ( ); not, or a PART, within 5 others");
        int at = ROW.length() + 5;
        String[] opens = {"(", "not "};
        for (int kinds = 0; kinds < 32; kinds++) {
            String five = "";
            String four = "";
            String closes = "";
            for (int i = 0; i < 5; i++) {
                String open = opens[kinds >> i & 1];
                closes = i == 4 || open.equals("not ") ? closes : closes + ")";
                four = five;
                five += open;
            }
            Checks.of(ROW + "wake " + four + "depth" + closes + ";");
            for (String part : new String[] {"depth", "7", "not 1", "(1)", "not", "("}) {
                Checks.fault(ROW + "wake " + five + part, 5, at + five.length());
            }
            for (String other : new String[] {"out", ")", "and", "%", "12345", ";", "<"}) {
                Checks.fault(ROW + "wake " + five + other, 1, at + five.length());
            }
            Checks.fault(ROW + "wake " + five, 1, at + five.stripTrailing().length() + (five.endsWith(" ") ? 1 : 0));
        }
        Checks.due("four within each other, side by side", Checks.of(ROW + ANN + "wake ((((3))))*((((2))))+not not not not 1;").odds(0, 0), 7);
        Checks.fault(ROW + "wake ((((3))))*(((((2)))));", 5, at + 15);
        for (String law : new String[] {"spill", "queue"}) {
            Checks.of(ROW + law + " ((((tick))));");
            Checks.fault(ROW + law + " (((((tick)))));", 5, ROW.length() + law.length() + 6);
        }
    }

    private static long wake(String law) {
        return Checks.of("row 2 flight 9;" + ANN + "wake " + law + ";").odds(0, 0);
    }

    private static void wraps() {
        Checks.edge(3, "ints wrap");
        Checks.due("2^31 - 1 is above 10", wake("4096*4096*127+4096*4095+4095"), 10);
        Checks.due("2^31 is below 0", wake("4096*4096*128"), 0);
        Checks.due("2^31 < 0", wake("8*(4096*4096*128<0)"), 8);
        Checks.due("2^31 - 1 is not", wake("8*(4096*4096*128-1<0)"), 0);
        Checks.due("0 - 2^31 - 1 is above 0", wake("8*(0<0-4096*4096*128-1)"), 8);
        Checks.due("2^32 is 0", wake("4096*4096*256+6"), 6);
        Checks.due("2^32 is not so", wake("not(4096*4096*256)*5"), 5);
        Checks.due("9999 * 9999 * 21 fits", wake("9999*9999*21"), 10);
        Checks.due("9999 * 9999 * 22 does not", wake("9999*9999*22"), 0);
        Checks.due("2^31 + 2^31 is 0", wake("4+4096*4096*128+4096*4096*128"), 4);
    }

    private static void so() {
        Checks.edge(3, "Of not, and, or, < and = comes 1 or 0; what is not 0 is so; from the left");
        String[] laws = {"not 0", "not 1", "not 7", "not(0-1)", "7 and 7", "7 and 0", "0 and 7", "0-1 and 0-1", "7 or 0", "0 or 7",
            "0 or 0", "7 or 7", "1<2", "2<2", "3<2", "2=2", "2=3", "1 or 1 and 0", "0 and 0 or 1", "1 and 0 or 1", "9-3-2", "9-(3-2)",
            "1+2*3", "(1+2)*3", "not 5+3", "not(5+3)", "not 0*4", "not not 7", "1+1<1+2", "2*3=3+3", "1<2 and 2<1", "7=7 and 8"};
        int[] due = {1, 0, 0, 0, 1, 0, 0, 1, 1, 1, 0, 1, 1, 0, 0, 1, 0, 0, 1, 1, 4, 8, 7, 9, 3, 0, 4, 1, 1, 1, 0, 1};
        for (int i = 0; i < laws.length; i++) {
            Checks.due(laws[i], wake(laws[i]), due[i]);
        }
    }

    private static void least() {
        Checks.edge(3, "of the first token from the left that is wrong the least");
        Checks.fault("row 6 flight 99;", 4, 4);
        Checks.fault("row 6 fligt 99;", 4, 4);
        Checks.fault("row 3 fligt 99;", 1, 6);
        Checks.fault(ROW + "gap 5;gap 99;", 3, ROW.length() + 6);
        Checks.fault(ROW + "gap 99;gap 5;", 4, ROW.length() + 4);
        Checks.fault(ROW + "cup 1;cup 1%", 3, ROW.length() + 10);
        Checks.fault(ROW + "cup 9%", 4, ROW.length() + 4);
        Checks.fault(ROW + "cup % 9", 1, ROW.length() + 4);
        Checks.fault(ROW + "wake %;gap 99;", 1, ROW.length() + 5);
        Checks.fault(ROW + "belt 5 to 4;belt 72 to 1;", 4, ROW.length() + 10);
    }

    private static void withoutLaws() {
        Checks.edge(3, "Without wake: 10 - depth; without spill: 3 + side; without queue: 0");
        PastSleep x = Checks.of("row 3 flight 9;" + Checks.sitter("a", "plain", 0, 1, 9, 5, 0, 20, 0, 0)
            + Checks.sitter("b", "plain", 1, 1, 9, 5, 9, 20, 0, 0) + Checks.sitter("c", "light", 2, 1, 9, 5, 9, 20, 0, 0));
        Checks.due("depth 0", x.odds(0, 0), 10);
        Checks.due("depth 9", x.odds(1, 0), 1);
        Checks.due("DEPTH 4", x.odds(2, 0), 6);
        Checks.due("side 0", x.odds(0, 1), 3);
        Checks.due("side 1", x.odds(0, 2), 4);
        x.go(0, 0, 0);
        Checks.due("OUT for 1", x.sitter(0, 4), 1);
        x.go(1, 0, 0);
        Checks.due("for 1, too", x.sitter(1, 4), 1);
    }

    private static void begins() {
        Checks.edge(3, "TICK 0, all in their SEATS, needs 0, cups stand, touches and WENT are gone, nothing can be undone");
        String text = "row 2 flight 9;" + Checks.sitter("a", "plain", 0, 5, 9, 5, 5, 30, 0, 0)
            + Checks.sitter("b", "plain", 1, 5, 9, 5, 5, 30, 0, 9) + "cup 1;";
        PastSleep x = Checks.of(text);
        String first = Look.whole(x);
        x.ticks(2);
        x.touch(0, true);
        x.went(0, 5);
        x.go(0, 0, 0);
        x.go(0, 3, 0);
        Checks.due("changed", Look.at(x).equals(Look.at(Checks.of(text))), false);
        Checks.due("the same again", Checks.cabin(x, text), 0);
        Checks.due("as it was", Look.whole(x), first);
        Checks.due("nothing can be undone", x.undo(), false);
        Checks.due("may be told again", x.went(0, 5), true);
        Checks.edge(3, "MARKS stay");
        x = Checks.of(text);
        x.ticks(2);
        x.mark(3, false);
        Checks.due("another", Checks.cabin(x, "row 5 flight 1;"), 0);
        Checks.due("gone back to", x.mark(3, true), true);
        Checks.due("TICK 2", x.count(3), 2);
        Checks.due("two sitters", x.count(2), 2);
        Checks.due("no other MARK", x.mark(2, true), false);
    }

    private static void stays() {
        Checks.edge(3, "or its FAULT (all stays then)");
        String text = "row 3 flight 9;" + Checks.sitter("a", "plain", 0, 5, 9, 5, 5, 30, 0, 0)
            + Checks.sitter("b", "plain", 1, 5, 9, 5, 5, 30, 0, 9) + "cup 1;belt 4 to 4;gap 7;feign 3;price 2 3 4 5;wake 6;spill 2+side;queue tick;";
        String other = "row 5 flight 72;" + Checks.sitter("c", "tall", 4, 1, 1, 1, 1, 20, 3, 9) + Checks.sitter("d", "light", 3, 1, 1, 1, 1, 20, 3, 9)
            + "cup 3;cup 4;belt 0 to 3;trolley 5 to 6;gap 20;price 9 9 9 9;feign 10;wake 1;spill 9;queue 9;";
        String[] faults = {"", "%", other + "gap 6;", other + "cup 9;", other + "row", other + "sitter", "row 6"};
        for (String fault : faults) {
            PastSleep x = Checks.of(text);
            x.ticks(1);
            x.go(0, 0, 0);
            x.go(0, 3, 0);
            x.touch(1, true);
            x.went(1, 3);
            x.mark(2, false);
            String ahead = Look.whole(x);
            Checks.due("a FAULT", Checks.cabin(x, fault) > 0, true);
            Checks.due("all stays behind " + fault, Look.whole(x), ahead);
            Checks.due("can be undone", x.undo(), true);
            Checks.due("can be undone", x.undo(), true);
            Checks.due("no more", x.undo(), false);
            Checks.due("MARKS, too", x.mark(2, true), true);
            Checks.due("no others", x.mark(1, true), false);
        }
    }
}
