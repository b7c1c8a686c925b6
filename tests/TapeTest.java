/** Promises 1 to 3: a new object, the TAPE, the CABIN and its FAULTS. */
public final class TapeTest {
    private static final String ROW = "row 3 flight 9;";
    private static final String ANN = "sitter ann plain at 0 needs 1 limit 9 goes 5 depth 3 legs 30 sleeps 0 to 4;";

    public static void main(String[] args) {
        newObject();
        signs();
        taken();
        row();
        sitters();
        cups();
        shuts();
        once();
        laws();
        depths();
        tokens();
        stays();
        Checks.end();
    }

    private static void newObject() {
        PastSleep x = new PastSleep();
        int[] due = {2, 1, 0, 0, 0, 0, 0, 0, 0, 11, 0, 0};
        for (int what = 0; what < due.length; what++) {
            Checks.due("new count " + what, x.count(what), due[what]);
        }
        Checks.due("new seat", x.seat(1, 0), -1);
        Checks.due("new seat's cup", x.seat(1, 1), 0);
        Checks.due("no third seat", x.seat(2, 1), -1);
        Checks.due("new shut", x.shut(0), 0);
        Checks.due("new sitter", x.sitter(0, 0), -1);
        Checks.due("NONE", PastSleep.NONE, -1);
    }

    private static void signs() {
        PastSleep x = new PastSleep();
        Checks.due("highest first", x.feed(0x726f772032206600L, 0x6c69676874203100L, 0x3b00000000000000L), 15);
        Checks.due("read", x.cabin(), 0);
        Checks.due("others left out", x.feed(0x0a1f207e7f80ff09L, -1L, 0x0d0b000000000000L), 3);
        for (int i = 0; i < 41; i++) {
            x.feed(0x2020202020202020L, 0x2020202020202020L, 0x2020202020202020L);
        }
        Checks.due("987", x.count(11), 987);
        Checks.due("1000 at most", x.feed(0x2020202020202020L, 0x2020202020202020L, 0x2020202020202020L), 1000);
        Checks.due("beyond 1000", x.feed(0x2020202020202020L, 0L, 0L), 1000);
        Checks.due("strange signs", x.cabin(), 1 + 16 * 2);
        x.feed(0x2020202020202020L, 0L, 0L);
        Checks.due("end of blanks", x.cabin(), 1 + 16 * 8);
    }

    private static void taken() {
        PastSleep x = new PastSleep();
        Checks.feed(x, ROW);
        Checks.due("signs", x.count(11), ROW.length());
        Checks.due("cabin", x.cabin(), 0);
        Checks.due("taken", x.count(11), 0);
        Checks.due("empty", x.cabin(), 1);
        Checks.feed(x, "row 9");
        Checks.due("fault", x.cabin(), 4 + 16 * 4);
        Checks.due("taken too", x.count(11), 0);
        Checks.due("stays", x.count(0), 3);
    }

    private static void row() {
        Checks.fault("", 1, 0);
        Checks.fault("  \n ", 1, 4);
        Checks.fault("row", 1, 3);
        Checks.fault("row 1 flight 9;", 4, 4);
        Checks.fault("row 6 flight 9;", 4, 4);
        Checks.fault("row x flight 9;", 1, 4);
        Checks.fault("row 3 flights 9;", 1, 6);
        Checks.fault("row 3 flight 0;", 4, 13);
        Checks.fault("row 3 flight 73;", 4, 13);
        Checks.fault("row 3 flight 9", 1, 14);
        Checks.fault("row 3 flight 9;row 3 flight 9;", 1, 15);
        Checks.fault("cup 0;row 3 flight 9;", 1, 0);
        PastSleep x = Checks.of("row 5 flight 72;");
        Checks.due("SEATS", x.count(0), 5);
        Checks.due("TICKS", x.count(1), 72);
        Checks.of("row 2 flight 1;");
        Checks.of("row2flight1;");
        Checks.of("\nrow\n2 flight\n\n 0001 ; ");
    }

    private static void sitters() {
        String[] wrongs = {"depth plain at 1", "ann plain at 1", "bob dark at 1", "bob plain on 1", "bob plain at 0",
            "bob plain at 3", "bob plain at x", "bob plain at 1 needs 10", "bob plain at 1 limit",
            "bob plain at 1 needs 9 limit 0", "bob plain at 1 needs 9 limit 100", "bob plain at 1 needs 9 limit 99 goes 0",
            "bob plain at 1 needs 9 limit 99 goes 100", "bob plain at 1 needs 9 limit 99 goes 99 depth 10",
            "bob plain at 1 needs 9 limit 99 goes 99 depth 9 legs 19", "bob plain at 1 needs 9 limit 99 goes 99 depth 9 legs 41",
            "bob plain at 1 needs 9 limit 99 goes 99 depth 9 legs 40 sleeps 73",
            "bob plain at 1 needs 9 limit 99 goes 99 depth 9 legs 40 sleeps 5 to 4",
            "bob plain at 1 needs 9 limit 99 goes 99 depth 9 legs 40 sleeps 5 to 73"};
        int[] kinds = {1, 3, 1, 1, 3, 4, 1, 4, 1, 4, 4, 4, 4, 4, 4, 4, 4, 4, 4};
        for (int i = 0; i < wrongs.length; i++) {
            String line = "sitter " + wrongs[i];
            String[] words = wrongs[i].split(" ");
            int place = kinds[i] == 3 && i == 1 || i == 0 ? 7 : i == 2 ? 11 : line.lastIndexOf(words[words.length - 1]);
            place = wrongs[i].endsWith("on 1") ? line.indexOf("on 1") : place;
            Checks.fault(ROW + ANN + line + ";", kinds[i], ROW.length() + ANN.length() + place);
        }
        String[] kindsOf = {"plain", "drinker", "light", "tall", "feigner"};
        for (int i = 0; i < kindsOf.length; i++) {
            PastSleep x = Checks.of(ROW + ANN.replace("plain", kindsOf[i]));
            Checks.due(kindsOf[i], x.sitter(0, 0), i);
        }
        for (String name : new String[] {"tick", "asked", "side", "out", "z", "abcdefgh", "rows", "ro", "sitte", "tot"}) {
            Checks.of(ROW + ANN.replace("ann", name));
        }
        for (String name : "row flight sitter at needs limit goes depth legs sleeps to cup belt trolley gap price feign wake spill queue plain drinker light tall feigner not and or".split(" ")) {
            Checks.fault(ROW + ANN.replace("ann", name), 1, ROW.length() + 7);
        }
        Checks.fault(ROW + ANN.replace("ann", "abcdefghi"), 1, ROW.length() + 7);
        Checks.fault(ROW + ANN.replace("ann", "5"), 1, ROW.length() + 7);
        Checks.fault(ROW + ANN.substring(0, ANN.length() - 1), 1, ROW.length() + ANN.length() - 1);
        PastSleep x = Checks.of("row 5 flight 9;" + ANN + ANN.replace("ann", "b").replace("at 0", "at 4")
            + ANN.replace("ann", "c").replace("at 0", "at 1") + ANN.replace("ann", "d").replace("at 0", "at 3")
            + ANN.replace("ann", "e").replace("at 0", "at 2"));
        Checks.due("five", x.count(2), 5);
        Checks.due("numbered as told", x.seat(4, 0), 1);
    }

    private static void cups() {
        PastSleep x = Checks.of(ROW + "cup 2;cup 0;");
        Checks.due("cups", x.count(8), 2);
        Checks.due("cup 1", x.seat(1, 1), 0);
        Checks.fault(ROW + "cup 2;cup 2;", 3, 25);
        Checks.fault(ROW + "cup 3;", 4, 19);
        Checks.fault(ROW + "cup;", 1, 18);
    }

    private static void shuts() {
        String four = "belt 0 to 0;belt 5 to 6;belt 71 to 71;belt 3 to 3;";
        PastSleep x = Checks.of(ROW + four + four.replace("belt", "trolley"));
        Checks.due("shut 0", x.shut(0), 1);
        Checks.due("shut 4", x.shut(4), 0);
        Checks.due("shut 6", x.shut(6), 1);
        Checks.fault(ROW + four + "trolley 1 to 2;belt 9 to 9;", 5, ROW.length() + four.length() + 15);
        Checks.fault(ROW + four.replace("belt", "trolley") + "trolley", 5, ROW.length() + four.length() + 12);
        Checks.fault(ROW + "belt 72 to 72;", 4, 20);
        Checks.fault(ROW + "belt 7 to 72;", 4, 25);
        Checks.fault(ROW + "belt 7 to 6;", 4, 25);
        Checks.fault(ROW + "belt 7 6;", 1, 22);
    }

    private static void once() {
        String[] lines = {"gap 5;", "price 0 0 0 0;", "feign 0;", "wake 1;", "spill 1;", "queue 1;"};
        StringBuilder all = new StringBuilder(ROW);
        for (String line : lines) {
            Checks.fault(ROW + line + line, 3, ROW.length() + line.length());
            all.append(line);
        }
        Checks.of(all.toString());
        Checks.due("gap", Checks.of(ROW + "gap 20;").count(9), 20);
        Checks.fault(ROW + "gap 21;", 4, 19);
        Checks.fault(ROW + "gap 4;", 4, 19);
        Checks.fault(ROW + "feign 11;", 4, 21);
        Checks.fault(ROW + "price 1 2 3 100;", 4, 27);
        Checks.fault(ROW + "price 1 2 3;", 1, 26);
        Checks.fault(ROW + "price 1 2 3 4 5;", 1, 29);
        Checks.of(ROW + "price 99 99 99 99;feign 10;");
    }

    private static void laws() {
        Checks.of(ROW + "wake tick+depth*legs-cup<asked and not(1=2)or 9999;");
        Checks.of(ROW + "spill gap+side+tick+depth+legs+cup+asked;queue out+tick;");
        for (String fact : "gap side out".split(" ")) {
            Checks.fault(ROW + "wake " + fact + ";", 1, ROW.length() + 5);
        }
        Checks.fault(ROW + "spill out;", 1, ROW.length() + 6);
        for (String fact : "gap side depth legs cup asked".split(" ")) {
            Checks.fault(ROW + "queue " + fact + ";", 1, ROW.length() + 6);
        }
        Checks.fault(ROW + "wake;", 1, ROW.length() + 4);
        Checks.fault(ROW + "wake 1<2<3;", 1, ROW.length() + 8);
        Checks.fault(ROW + "wake 1=2=3;", 1, ROW.length() + 8);
        Checks.of(ROW + "wake 1<2 and 2<3;");
        Checks.fault(ROW + "wake 1 2;", 1, ROW.length() + 7);
        Checks.fault(ROW + "wake (1;", 1, ROW.length() + 7);
        Checks.fault(ROW + "wake 1);", 1, ROW.length() + 6);
        Checks.fault(ROW + "wake 1+;", 1, ROW.length() + 7);
        Checks.fault(ROW + "wake -1;", 1, ROW.length() + 5);
        Checks.fault(ROW + "wake 1 and or 2;", 1, ROW.length() + 11);
        Checks.fault(ROW + "wake 10000;", 1, ROW.length() + 5);
        Checks.fault(ROW + "wake ann;", 1, ROW.length() + 5);
    }

    private static void depths() {
        int at = ROW.length() + 5;
        Checks.of(ROW + "wake ((((1))));");
        Checks.fault(ROW + "wake (((((1)))));", 5, at + 5);
        Checks.fault(ROW + "wake ((((not 1))));", 5, at + 8);
        Checks.of(ROW + "wake (((not 1)));");
        Checks.fault(ROW + "wake not not not not not 1;", 5, at + 20);
        Checks.of(ROW + "wake not not not not 1;");
        Checks.fault(ROW + "wake not(not(not(", 5, at + 11);
        Checks.fault(ROW + "wake not((not((depth))));", 5, at + 9);
        Checks.fault(ROW + "wake not((not(depth)));", 5, at + 9);
        Checks.of(ROW + "wake not((not depth));");
        Checks.fault(ROW + "wake not((not(;", 1, at + 9);
        Checks.fault(ROW + "wake not((not(out)));", 1, at + 9);
        Checks.fault(ROW + "wake (((((not 1)))));", 5, at + 5);
        Checks.fault(ROW + "wake ((((((1))))));", 5, at + 5);
        Checks.of(ROW + "wake ((((1))))+((((2))))*not not(not 3)<((((4))));");
    }

    private static void tokens() {
        Checks.fault(ROW + "cup 00001;", 1, 19);
        Checks.of(ROW + "cup 0001;");
        Checks.fault(ROW + "cups 1;", 1, 15);
        Checks.fault(ROW + "Cup 1;", 1, 15);
        Checks.fault(ROW + "cup 1,", 1, 20);
        Checks.fault(ROW + "cup 1;;", 1, 21);
        Checks.of(ROW + "belt 1to 2;belt 1to2;cup1;");
        Checks.of(ROW + "belt 1 to\t2;");
        Checks.fault(ROW + "c up 1;", 1, 15);
        Checks.fault(ROW + "wake 1 > 2;", 1, 22);
    }

    private static void stays() {
        PastSleep x = Checks.of(ROW + ANN + "cup 1;gap 7;");
        x.ticks(2);
        x.touch(0, true);
        Checks.feed(x, "row 5 flight 50;cup 9;");
        Checks.due("fault", x.cabin(), 4 + 16 * 20);
        Checks.due("SEATS stay", x.count(0), 3);
        Checks.due("TICK stays", x.count(3), 2);
        Checks.due("gap stays", x.count(9), 7);
        Checks.due("sitters stay", x.count(2), 1);
        Checks.due("needs stay", x.sitter(0, 2), 2);
        Checks.due("touches stay", x.truly(0, 0), 9);
        Checks.due("another", Checks.cabin(x, ROW + ANN), 0);
        Checks.due("TICK 0", x.count(3), 0);
        Checks.due("needs 0", x.sitter(0, 2), 0);
        Checks.due("gap again", x.count(9), 11);
        Checks.due("touches gone", x.truly(0, 1), 2);
        Checks.due("cup gone", x.count(8), 0);
    }
}
