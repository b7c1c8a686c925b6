import java.util.ArrayList;
import java.util.List;
import java.util.Map;
import java.util.Random;

/** A CABIN made by chance: its parts, and its text. */
final class Spec {
    static final String[] KINDS = {"plain", "drinker", "light", "tall", "feigner"};

    /** An E as a tree. */
    interface Law {
        int worth(Map<String, Integer> facts);

        String text();
    }

    record Fixed(int number) implements Law {
        public int worth(Map<String, Integer> facts) {
            return number;
        }

        public String text() {
            return Integer.toString(number);
        }
    }

    record Fact(String name) implements Law {
        public int worth(Map<String, Integer> facts) {
            return facts.get(name);
        }

        public String text() {
            return name;
        }
    }

    record Not(Law of) implements Law {
        public int worth(Map<String, Integer> facts) {
            return of.worth(facts) == 0 ? 1 : 0;
        }

        public String text() {
            return "not " + of.text();
        }
    }

    record Closed(Law of) implements Law {
        public int worth(Map<String, Integer> facts) {
            return of.worth(facts);
        }

        public String text() {
            return "(" + of.text() + ")";
        }
    }

    record Chain(List<Law> parts, List<String> signs) implements Law {
        public int worth(Map<String, Integer> facts) {
            int worth = parts.get(0).worth(facts);
            for (int i = 0; i < signs.size(); i++) {
                int next = parts.get(i + 1).worth(facts);
                worth = switch (signs.get(i)) {
                    case "and" -> worth != 0 && next != 0 ? 1 : 0;
                    case "or" -> worth != 0 || next != 0 ? 1 : 0;
                    case "<" -> worth < next ? 1 : 0;
                    case "=" -> worth == next ? 1 : 0;
                    case "+" -> worth + next;
                    case "-" -> worth - next;
                    default -> worth * next;
                };
            }
            return worth;
        }

        public String text() {
            StringBuilder text = new StringBuilder(parts.get(0).text());
            for (int i = 0; i < signs.size(); i++) {
                text.append(' ').append(signs.get(i)).append(' ').append(parts.get(i + 1).text());
            }
            return text.toString();
        }
    }

    static final class Person {
        int kind;
        int seat;
        int needs;
        int limit;
        int goes;
        int depth;
        int legs;
        int from;
        int to;
    }

    final List<Person> people = new ArrayList<>();
    int seats;
    int flight;
    int gap = 11;
    int feign = 9;
    int[] price = {1, 1, 1, 1};
    final boolean[] cup = new boolean[5];
    final boolean[] shut = new boolean[72];
    Law wake;
    Law spill;
    Law queue;
    String text;

    private final Random random;
    private int budget;

    Spec(Random random) {
        this.random = random;
        seats = 2 + below(4);
        flight = below(4) == 0 ? 1 + below(72) : 1 + below(30);
        List<String> lines = new ArrayList<>();
        addPeople(lines);
        addShut(lines);
        addOnce(lines);
        addLaws(lines);
        StringBuilder all = new StringBuilder("row " + seats + " flight " + flight + ";");
        java.util.Collections.shuffle(lines, new Random(random.nextLong()));
        orderPeople(lines);
        for (String line : lines) {
            all.append(line).append(below(3) == 0 ? " ;\n" : ";");
        }
        text = all.toString();
    }

    private int below(int most) {
        return random.nextInt(most);
    }

    /** The sitters are numbered as told, so their lines keep their order among the others. */
    private void orderPeople(List<String> lines) {
        int next = 0;
        for (int i = 0; i < lines.size(); i++) {
            if (lines.get(i).startsWith("sitter")) {
                lines.set(i, lineOf(next, people.get(next)));
                next++;
            }
        }
    }

    private static String lineOf(int number, Person p) {
        String[] names = {"ann", "bob", "tick", "out", "side"};
        return "sitter " + names[number] + " " + KINDS[p.kind] + " at " + p.seat + " needs " + p.needs + " limit " + p.limit
            + " goes " + p.goes + " depth " + p.depth + " legs " + p.legs + " sleeps " + p.from + " to " + p.to;
    }

    private void addPeople(List<String> lines) {
        List<Integer> places = new ArrayList<>();
        for (int i = 0; i < seats; i++) {
            places.add(i);
        }
        java.util.Collections.shuffle(places, new Random(random.nextLong()));
        int many = below(6) == 0 ? below(seats + 1) : Math.max(2, seats - below(2));
        for (int i = 0; i < many; i++) {
            Person p = new Person();
            p.kind = below(5);
            p.seat = places.get(i);
            p.needs = below(10);
            p.limit = below(3) == 0 ? 1 + below(99) : 10 + below(40);
            p.goes = below(3) == 0 ? 1 + below(99) : 5 + below(30);
            p.depth = below(10);
            p.legs = 20 + below(21);
            p.from = below(3) == 0 ? below(73) : below(8);
            p.to = p.from + below(73 - p.from);
            people.add(p);
            lines.add("sitter");
        }
        for (int i = 0; i < seats; i++) {
            if (below(2) == 0) {
                cup[i] = true;
                lines.add("cup " + i);
            }
        }
    }

    private void addShut(List<String> lines) {
        for (String word : new String[] {"belt", "trolley"}) {
            int many = below(4) == 0 ? 4 : below(2);
            for (int i = 0; i < many; i++) {
                int from = below(3) == 0 ? below(72) : below(20);
                int to = Math.min(71, from + below(5));
                lines.add(word + " " + from + " to " + to);
                for (int t = from; t <= to; t++) {
                    shut[t] = true;
                }
            }
        }
    }

    private void addOnce(List<String> lines) {
        if (below(2) == 0) {
            gap = 5 + below(16);
            lines.add("gap " + gap);
        }
        if (below(4) != 0) {
            int most = below(3) == 0 ? 100 : 12;
            price = new int[] {below(most), below(most), below(most), below(most)};
            lines.add("price " + price[0] + " " + price[1] + " " + price[2] + " " + price[3]);
        }
        if (below(2) == 0) {
            feign = below(11);
            lines.add("feign " + feign);
        }
    }

    private void addLaws(List<String> lines) {
        budget = 40;
        if (below(2) == 0) {
            wake = law(0, 0, "tick depth legs cup asked".split(" "));
            lines.add("wake " + wake.text());
        }
        if (below(2) == 0) {
            spill = law(0, 0, "tick depth legs cup asked gap side".split(" "));
            lines.add("spill " + spill.text());
        }
        if (below(2) == 0) {
            queue = law(0, 0, "tick out".split(" "));
            lines.add("queue " + queue.text());
        }
    }

    private Law law(int rank, int within, String[] facts) {
        if (rank == 4) {
            return part(within, facts);
        }
        String[][] signs = {{"and", "or"}, {"<", "="}, {"+", "-"}, {"*"}};
        List<Law> parts = new ArrayList<>();
        List<String> between = new ArrayList<>();
        parts.add(law(rank + 1, within, facts));
        int[] oneOf = {6, 5, 2, 4};
        for (int i = 0; i < (rank == 1 ? 1 : 3) && budget > 0 && below(oneOf[rank]) == 0; i++) {
            between.add(signs[rank][below(signs[rank].length)]);
            parts.add(law(rank + 1, within, facts));
        }
        return between.isEmpty() ? parts.get(0) : new Chain(parts, between);
    }

    private Law part(int within, String[] facts) {
        budget--;
        int choice = below(8);
        if (choice == 0 && within < 4 && budget > 0) {
            return new Not(part(within + 1, facts));
        }
        if (choice <= 2 && within < 4 && budget > 0) {
            return new Closed(law(0, within + 1, facts));
        }
        if (choice <= 4) {
            return new Fixed(below(12) == 0 ? below(10000) : below(11));
        }
        return new Fact(facts[below(facts.length)]);
    }
}
