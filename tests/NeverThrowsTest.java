import java.util.NoSuchElementException;
import java.util.Random;

/** No call throws but aisle and beer, and those only where the document says, for any arguments in any state. */
public final class NeverThrowsTest {
    private static final int[] FAR = {Integer.MIN_VALUE, -3, -2, -1, 0, 1, 2, 3, 4, 5, 6, 31, 32, 71, 72, 73, 242, 243, 9999,
        10000, 1 << 30, Integer.MAX_VALUE};

    private final Random random;
    private final PastSleep x = new PastSleep();

    private NeverThrowsTest(long seed) {
        random = new Random(seed);
    }

    public static void main(String[] args) {
        for (int run = 0; run < 1500; run++) {
            new NeverThrowsTest(run).run(run);
        }
        tapesByChance();
        Checks.end();
    }

    private int any() {
        return random.nextInt(3) > 0 ? random.nextInt(6) - 1 : FAR[random.nextInt(FAR.length)];
    }

    private void run(int run) {
        int call = -1;
        try {
            for (int n = 0; n < 512; n++) {
                call = random.nextInt(34);
                if (n % 60 == 0) {
                    Checks.cabin(x, new Spec(random).text);
                }
                face(call);
            }
            Checks.due("run " + run, 0, 0);
        } catch (RuntimeException e) {
            Checks.due("run " + run + ", call " + call + " threw " + e, 1, 0);
        }
    }

    private void face(int call) {
        switch (call) {
            case 0 -> x.feed(random.nextLong(), random.nextLong() & 0x7f7f7f7f7f7f7f7fL, 0x3b3b2020L << random.nextInt(60));
            case 1 -> x.cabin();
            case 2 -> x.sitter(any(), any());
            case 3 -> x.seat(any(), any());
            case 4 -> x.shut(any());
            case 5, 6 -> x.go(any(), any(), any());
            case 7, 8 -> x.back(any(), any(), any());
            case 9 -> x.undo();
            case 10 -> x.ticks(any());
            case 11 -> x.length(any());
            case 12 -> x.sleep(any());
            case 13 -> x.odds(any(), any());
            case 14 -> x.chance(any(), any(), random.nextBoolean());
            case 15 -> x.cost(any(), any());
            case 16 -> x.best(any());
            case 17 -> x.side(any());
            case 18 -> x.regime(any(), any());
            case 19 -> x.fewest(any(), any());
            case 20 -> x.before(any());
            case 21 -> x.standing(any());
            case 22 -> x.habits(any(), any());
            case 23 -> x.seated(any());
            case 24 -> throwing(any());
            case 25 -> x.rests(random.nextInt(3) > 0 ? random.nextInt(34) : any(), any());
            case 26 -> x.touch(any(), random.nextBoolean());
            case 27 -> x.truly(any(), any());
            case 28 -> x.went(any(), any());
            case 29 -> x.fits(any(), any());
            case 30 -> x.flights(any(), any(), any());
            case 31, 32 -> x.mark(any(), random.nextBoolean());
            default -> x.count(any());
        }
    }

    private void throwing(int who) {
        boolean known = who >= 0 && who < x.count(2);
        boolean threw = false;
        try {
            x.aisle(who);
        } catch (NoSuchElementException e) {
            threw = true;
        }
        Checks.due("aisle throws for " + who, threw, !known);
        threw = false;
        try {
            x.beer(who);
        } catch (NoSuchElementException e) {
            threw = true;
        }
        Checks.due("beer throws for " + who, threw && known, threw && known);
        Checks.due("beer throws for nobody", threw || known, true);
    }

    /** TAPES of words by chance, and CABINS with a sign changed, cut or put in: a FAULT lies within the TAPE. */
    private static void tapesByChance() {
        Random random = new Random(7);
        String[] words = ("row flight sitter at needs limit goes depth legs sleeps to cup belt trolley gap price feign wake spill"
            + " queue plain tall not and or tick asked side out ( ) < = + - * ; ; ; 0 1 2 5 30 99 100 9999 10000 ann bob %").split(" ");
        for (int run = 0; run < 4000; run++) {
            StringBuilder text = new StringBuilder(run % 2 == 0 ? new Spec(random).text : "row 3 flight 9;");
            for (int n = random.nextInt(4); n >= 0 && run % 2 == 0; n--) {
                int at = random.nextInt(text.length());
                text.replace(at, at + random.nextInt(2), words[random.nextInt(words.length)]);
            }
            for (int n = random.nextInt(120); n >= 0 && run % 2 == 1; n--) {
                text.append(words[random.nextInt(words.length)]).append(' ');
            }
            PastSleep x = new PastSleep();
            int signs = Checks.feed(x, text.toString());
            Checks.due("signs of " + text, signs, Math.min(1000, text.length()));
            int fault = x.cabin();
            int kind = fault % 16;
            boolean right = fault == 0 || (kind == 1 || kind >= 3 && kind <= 5) && fault / 16 <= signs;
            Checks.due("fault of " + text + " is " + fault, right, true);
        }
    }
}
