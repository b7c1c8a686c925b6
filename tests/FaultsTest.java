import java.util.ArrayList;
import java.util.List;
import java.util.Random;
import java.util.TreeMap;
import java.util.regex.Matcher;
import java.util.regex.Pattern;

/** Promise 3: TAPES by chance, right ones and some with a few tokens or lines changed: each FAULT as told a second time. */
public final class FaultsTest {
    private static final int TAPES = 60000;
    private static final Pattern TOKEN = Pattern.compile("[a-z]+|[0-9]+|[ \n]+|.");
    private static final String[] TOKENS = ("row flight sitter at needs limit goes depth legs sleeps to cup belt trolley gap price"
        + " feign wake spill queue plain drinker light tall feigner not and or tick asked side out ann bob ( ( ( ) ) < = + - * ;"
        + " ; ; 0 1 2 3 4 5 6 9 10 11 19 20 21 40 41 71 72 73 99 100 0007 9999 10000 00001 longword toolongword % A").split(" ");
    private static final String[] LINES = {"belt 1 to 2;", "trolley 5 to 71;", "cup 1;", "gap 7;", "price 1 2 3 4;", "feign 3;",
        "wake ((((1))));", "spill not not not not side;", "queue (((((1)))));", "wake not not not not not 1;", "spill 1<2<3;",
        "queue 1<2 and (1=2 or 3<4)=0;", "sitter ann tall at 1 needs 0 limit 1 goes 1 depth 0 legs 20 sleeps 0 to 0;",
        "sitter cat light at 2 needs 9 limit 99 goes 99 depth 9 legs 40 sleeps 72 to 72;", "row 2 flight 1;",
        "wake not (not (not 1 + 2) * 3) < not not 4;", "spill ((((gap) + (side)) * (cup)) - legs);"};

    private final Random random;

    private FaultsTest(long seed) {
        random = new Random(seed);
    }

    public static void main(String[] args) {
        TreeMap<Integer, Integer> seen = new TreeMap<>();
        PastSleep x = new PastSleep();
        FaultsTest test = new FaultsTest(11);
        for (int run = 0; run < TAPES && !Checks.anyWrong(); run++) {
            String tape = test.tape();
            int due = Faults.of(tape);
            Checks.due("fault of \"" + tape + "\"", Checks.cabin(x, tape), due);
            seen.merge(due % 16, 1, Integer::sum);
        }
        for (int kind : new int[] {0, 1, 3, 4, 5}) {
            Checks.due("enough of kind " + kind + ", told " + seen, seen.getOrDefault(kind, 0) >= 400, true);
        }
        Checks.end();
    }

    private int below(int most) {
        return random.nextInt(most);
    }

    private String tape() {
        String text = "";
        while (text.isEmpty() || text.length() > 1000) {
            text = withLines(new Spec(random).text);
            for (int many = below(4); many > 0; many--) {
                text = changed(text);
            }
        }
        return text;
    }

    private String withLines(String text) {
        StringBuilder all = new StringBuilder(text);
        for (int many = below(2) * below(8); many > 0; many--) {
            all.append(LINES[below(LINES.length)]);
        }
        return all.toString();
    }

    /** A token is another one, is left out, is put in, or stands twice. */
    private String changed(String text) {
        List<String> tokens = new ArrayList<>();
        Matcher token = TOKEN.matcher(text);
        while (token.find()) {
            tokens.add(token.group());
        }
        int at = below(tokens.size());
        String other = TOKENS[below(TOKENS.length)];
        switch (below(4)) {
            case 0 -> tokens.set(at, other);
            case 1 -> tokens.remove(at);
            case 2 -> tokens.add(at, " " + other + " ");
            default -> tokens.add(at, tokens.get(at));
        }
        return String.join("", tokens);
    }
}
