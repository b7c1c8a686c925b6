import java.util.ArrayDeque;
import java.util.ArrayList;
import java.util.Arrays;
import java.util.Collections;
import java.util.Deque;
import java.util.HashSet;
import java.util.List;
import java.util.Map;
import java.util.Set;
import java.util.TreeMap;
import java.util.regex.Matcher;
import java.util.regex.Pattern;

/** FAULTS told a second time: each line is a row of what is due, an E goes from part to join and back, no call within a call. */
final class Faults {
    private static final Pattern TOKEN = Pattern.compile("[a-z]+|[0-9]+|[^ \n]");
    private static final List<String> KINDS = List.of("plain", "drinker", "light", "tall", "feigner");
    private static final Set<String> NO_NAMES = new HashSet<>(Arrays.asList(("row flight sitter at needs limit goes depth legs sleeps"
        + " to cup belt trolley gap price feign wake spill queue plain drinker light tall feigner not and or").split(" ")));
    private static final Set<String> ONCE = Set.of("gap", "price", "feign", "wake", "spill", "queue");
    private static final Map<String, String> LINES = Map.ofEntries(
        Map.entry("sitter", "NAME KIND at SEAT needs 0..9 limit 1..99 goes 1..99 depth 0..9 legs 20..40 sleeps 0..72 to LAST..72 ;"),
        Map.entry("cup", "TABLE ;"),
        Map.entry("belt", "0..71 to LAST..71 ;"),
        Map.entry("trolley", "0..71 to LAST..71 ;"),
        Map.entry("gap", "5..20 ;"),
        Map.entry("price", "0..99 0..99 0..99 0..99 ;"),
        Map.entry("feign", "0..10 ;"),
        Map.entry("wake", "E"),
        Map.entry("spill", "E"),
        Map.entry("queue", "E"));
    private static final Map<String, Set<String>> FACTS = Map.of(
        "wake", Set.of("tick", "depth", "legs", "cup", "asked"),
        "spill", Set.of("tick", "depth", "legs", "cup", "asked", "gap", "side"),
        "queue", Set.of("tick", "out"));

    private final Deque<String> due = new ArrayDeque<>();
    private final Map<String, Integer> told = new TreeMap<>();
    private final Set<String> names = new HashSet<>();
    private final Set<Integer> taken = new HashSet<>();
    private final Set<Integer> cups = new HashSet<>();
    private int seats;
    private int last;
    private Set<String> facts;
    private boolean partDue;
    private boolean compared;
    private int nots;
    private final Deque<Integer> notsOutside = new ArrayDeque<>();
    private final Deque<Boolean> comparedOutside = new ArrayDeque<>();

    private Faults() {
        Collections.addAll(due, "row 2..5 flight 1..72 ;".split(" "));
    }

    /** 0, or the FAULT of a TAPE. */
    static int of(String tape) {
        Faults reader = new Faults();
        Matcher token = TOKEN.matcher(tape);
        while (token.find()) {
            int kind = reader.kindOf(token.group());
            if (kind != 0) {
                return kind + 16 * token.start();
            }
        }
        return reader.due.isEmpty() && reader.facts == null ? 0 : 1 + 16 * tape.length();
    }

    private int kindOf(String token) {
        List<Integer> kinds = new ArrayList<>();
        boolean word = token.matches("[a-z]{1,8}");
        boolean number = token.matches("[0-9]{1,4}");
        if (!word && !number && !token.matches("[()<=+*;-]")) {
            kinds.add(1);
        } else if (facts != null) {
            law(token, number, kinds);
        } else if (due.isEmpty()) {
            line(token, kinds);
        } else {
            item(due.poll(), token, word, number, kinds);
        }
        return kinds.isEmpty() ? 0 : Collections.min(kinds);
    }

    private void line(String token, List<Integer> kinds) {
        if (!LINES.containsKey(token)) {
            kinds.add(1);
            return;
        }
        int times = told.merge(token, 1, Integer::sum);
        if (ONCE.contains(token) && times > 1) {
            kinds.add(3);
        }
        if ((token.equals("belt") || token.equals("trolley")) && times > 4) {
            kinds.add(5);
        }
        if (LINES.get(token).equals("E")) {
            facts = FACTS.get(token);
            partDue = true;
            compared = false;
            nots = 0;
        } else {
            Collections.addAll(due, LINES.get(token).split(" "));
        }
    }

    private void item(String item, String token, boolean word, boolean number, List<Integer> kinds) {
        if (item.contains("..")) {
            range(item.split("\\.\\."), token, number, kinds);
        } else if (item.equals("NAME")) {
            if (!word || NO_NAMES.contains(token)) {
                kinds.add(1);
            } else if (!names.add(token)) {
                kinds.add(3);
            }
        } else if (item.equals("KIND")) {
            if (!KINDS.contains(token)) {
                kinds.add(1);
            }
        } else if (item.equals("SEAT") || item.equals("TABLE")) {
            range(new String[] {"0", "" + (seats - 1)}, token, number, kinds);
            if (number && !(item.equals("SEAT") ? taken : cups).add(Integer.parseInt(token))) {
                kinds.add(3);
            }
        } else if (!item.equals(token)) {
            kinds.add(1);
        }
    }

    private void range(String[] ends, String token, boolean number, List<Integer> kinds) {
        if (!number) {
            kinds.add(1);
            return;
        }
        int value = Integer.parseInt(token);
        int least = ends[0].equals("LAST") ? last : Integer.parseInt(ends[0]);
        if (value < least || value > Integer.parseInt(ends[1])) {
            kinds.add(4);
        }
        last = value;
        seats = seats == 0 ? value : seats;
    }

    private void law(String token, boolean number, List<Integer> kinds) {
        if (partDue) {
            part(token, number, kinds);
        } else if (token.equals("and") || token.equals("or")) {
            compared = false;
            partDue = true;
        } else if ("+-*".contains(token)) {
            partDue = true;
        } else if ("<=".contains(token) && !compared) {
            compared = true;
            partDue = true;
        } else if (token.equals(")") && !notsOutside.isEmpty()) {
            notsOutside.pop();
            compared = comparedOutside.pop();
        } else if (token.equals(";") && notsOutside.isEmpty()) {
            facts = null;
        } else {
            kinds.add(1);
        }
    }

    private void part(String token, boolean number, List<Integer> kinds) {
        int within = nots + notsOutside.size();
        for (int outside : notsOutside) {
            within += outside;
        }
        boolean plain = number || facts.contains(token);
        if (!plain && !token.equals("not") && !token.equals("(")) {
            kinds.add(1);
        }
        if (within >= 5) {
            kinds.add(5);
        }
        if (token.equals("not")) {
            nots++;
        } else if (token.equals("(")) {
            notsOutside.push(nots);
            comparedOutside.push(compared);
            nots = 0;
            compared = false;
        } else {
            nots = 0;
            partDue = false;
        }
    }
}
