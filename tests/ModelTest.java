import java.util.Random;

/** All promises: runs of calls by chance, each answer against the model's. */
public final class ModelTest {
    private static final int RUNS = 1500;
    private static final int CALLS = 250;

    private final Random random;
    private final PastSleep x = new PastSleep();
    private final Model[] marks = new Model[4];
    private Model m;

    private ModelTest(long seed) {
        random = new Random(seed);
    }

    public static void main(String[] args) {
        int runs = args.length == 1 && args[0].matches("[0-9]+") ? Integer.parseInt(args[0]) : RUNS;
        for (int run = 0; run < runs && !Checks.anyWrong(); run++) {
            new ModelTest(run).run(run);
        }
        Checks.end();
    }

    private int below(int most) {
        return random.nextInt(most);
    }

    private void newCabin() {
        Spec c = new Spec(random);
        while (c.text.length() > 1000) {
            c = new Spec(random);
        }
        Checks.due("cabin of " + c.text, Checks.cabin(x, c.text), 0);
        m = new Model(c);
    }

    private void run(int run) {
        newCabin();
        for (int n = 0; n < CALLS && !Checks.anyWrong(); n++) {
            call();
            looks();
        }
        if (Checks.anyWrong()) {
            System.out.println("in run " + run + " at TICK " + m.tick + " of " + m.c.text);
        }
    }

    private void looks() {
        for (int what = -1; what <= 12; what++) {
            if (what != 11) {
                Checks.due("count " + what, x.count(what), m.count(what));
            }
        }
        for (int i = -1; i < 6; i++) {
            for (int what = -1; what <= 10; what++) {
                Checks.due("sitter " + i + " " + what, x.sitter(i, what), m.sitter(i, what));
            }
        }
    }

    private int someone() {
        int many = m.c.people.size();
        return many == 0 || below(20) == 0 ? below(8) - 1 : below(many);
    }

    private int someWays() {
        return below(15) == 0 ? below(300) - 5 : below((int) Math.pow(3, m.c.seats));
    }

    private int someLuck() {
        int all = 1 << m.c.seats;
        return below(15) == 0 ? below(40) - 3 : below(3) == 0 ? all - 1 : below(all);
    }

    private void call() {
        int i = someone();
        int what = below(12) == 0 ? below(5) - 2 : below(2);
        switch (below(31)) {
            case 0, 1, 2, 3 -> move(i);
            case 4, 5, 6, 7 -> moveBack(i);
            case 8 -> Checks.due("undo", x.undo(), m.undo());
            case 9, 10 -> pass();
            case 11 -> Checks.due("length " + i, x.length(i), m.length(i));
            case 12 -> asleep(i);
            case 13 -> ways(i);
            case 14 -> Checks.due("regime " + i + " " + what, x.regime(i, what), m.regime(i, what));
            case 15 -> Checks.due("fewest " + i + " " + what, x.fewest(i, what), m.fewest(i, what));
            case 16 -> Checks.due("before " + i, x.before(i), m.before(i));
            case 17, 18 -> standing(i);
            case 19 -> habits(i);
            case 20 -> Checks.due("seated", x.seated(i - 1), m.seated(i - 1));
            case 21 -> Checks.due("aisle " + i, Checks.aisle(x, i), m.aisle(i));
            case 22 -> Checks.due("beer " + i, Checks.beer(x, i), m.beer(i));
            case 23 -> rests();
            case 24 -> tells(i);
            case 25 -> flights();
            case 26 -> mark();
            case 27 -> shut();
            case 28 -> seats();
            case 29 -> fits(i, what);
            default -> tapes();
        }
    }

    private void move(int i) {
        int ways = someWays();
        int luck = someLuck();
        Checks.due("go " + i + " " + ways + " " + luck, x.go(i, ways, luck), m.go(i, ways, luck));
    }

    private void moveBack(int i) {
        int who = i;
        for (int k = 0; k < m.c.people.size() && below(10) > 0; k++) {
            who = m.out[k] == -1 ? k : who;
        }
        int ways = someWays();
        int luck = someLuck();
        Checks.due("back " + who + " " + ways + " " + luck, x.back(who, ways, luck), m.back(who, ways, luck));
    }

    private void pass() {
        int many = below(12) == 0 ? below(76) - 2 : 1 + below(2);
        Checks.due("ticks " + many, x.ticks(many), m.ticks(many));
    }

    private void asleep(int i) {
        boolean known = m.is(i);
        int sleep = !known ? -1 : !m.asleep(i, m.tick) ? 0 : m.p(i).to - m.tick;
        Checks.due("sleep " + i, x.sleep(i), sleep);
        for (int way = -1; way <= 3; way++) {
            int due = !known || way < 0 || way > 2 ? -1 : way == 0 ? m.waking(i, m.tick) : m.spilling(i, way - 1, m.tick);
            Checks.due("odds " + i + " " + way, x.odds(i, way), due);
        }
        int side = !known || !m.asleep(i, m.tick) ? -1 : m.spilling(i, 1, m.tick) < m.spilling(i, 0, m.tick) ? 1 : 0;
        Checks.due("side " + i, x.side(i), side);
    }

    private void ways(int i) {
        int ways = someWays();
        boolean clean = below(2) == 0;
        boolean can = m.is(i) && m.out[i] <= 0;
        boolean right = can && m.waysOk(ways);
        Checks.due("chance " + i + " " + ways, x.chance(i, ways, clean), right ? m.chance(i, ways, clean, m.tick) : -1);
        Checks.due("cost " + i + " " + ways, x.cost(i, ways), right ? m.cost(i, ways, m.tick, true) : -1);
        Checks.due("best " + i, x.best(i), can ? m.best(i, m.tick) : -1);
    }

    private void standing(int i) {
        int who = i;
        for (int k = 0; k < m.c.people.size(); k++) {
            who = m.out[k] == -1 ? k : who;
        }
        Checks.due("standing " + who, x.standing(who), m.standing(who));
    }

    private void habits(int i) {
        for (int what = -1; what <= 3; what++) {
            Checks.due("habits " + i + " " + what, x.habits(i, what), m.habits(i, what));
            Checks.due("habits -1 " + what, x.habits(-1, what), m.habits(-1, what));
        }
    }

    private void rests() {
        int set = below(3) == 0 ? below(40) - 2 : 3 << below(3) | (below(2) == 0 ? 1 : 0);
        int what = below(3) == 0 ? -1 : below(30) - 2;
        Checks.due("rests " + set + " " + what, x.rests(set, what), m.rests(set, what));
    }

    private void tells(int i) {
        for (int k = below(4); k >= 0; k--) {
            boolean moved = below(2) == 0;
            Checks.due("touch " + i, x.touch(i, moved), m.touch(i, moved));
        }
        Checks.due("truly " + i + " 0", x.truly(i, 0), m.truly(i, 0));
        Checks.due("truly " + i + " 1", x.truly(i, 1), m.truly(i, 1));
        Checks.due("truly " + i + " 2", x.truly(i, 2), -1);
    }

    private void fits(int i, int what) {
        if (m.is(i) && below(2) == 0) {
            int last = m.went.get(i).isEmpty() ? -1 : m.went.get(i).get(m.went.get(i).size() - 1);
            int tick = below(12) == 0 ? below(75) - 2 : last + 1 + (below(3) == 0 ? below(6) : 2);
            Checks.due("went " + i + " " + tick, x.went(i, tick), m.went(i, tick));
        }
        Checks.due("fits " + i + " " + what, x.fits(i, what), m.fits(i, what));
    }

    private void flights() {
        int seed = below(10) == 0 ? below(10100) - 50 : below(10000);
        int many = below(10) == 0 ? below(24) - 2 : 1 + below(20);
        for (int what = -1; what <= 3; what++) {
            Checks.due("flights " + seed + " " + many + " " + what, x.flights(seed, many, what), m.flights(seed, many, what));
        }
    }

    private void mark() {
        int mark = below(6) - 1;
        boolean back = below(2) == 0;
        boolean due = mark >= 0 && mark < 4 && (!back || marks[mark] != null);
        Checks.due("mark " + mark + " " + back, x.mark(mark, back), due);
        if (due && back) {
            m = marks[mark].copy();
        } else if (due) {
            marks[mark] = m.copy();
        }
    }

    private void shut() {
        for (int t = -1; t <= 73; t++) {
            int due = t < 0 || t >= m.c.flight ? -1 : m.shut(t) ? 1 : 0;
            Checks.due("shut " + t, x.shut(t), due);
        }
    }

    private void seats() {
        for (int s = -1; s <= 6; s++) {
            for (int what = -1; what <= 3; what++) {
                Checks.due("seat " + s + " " + what, x.seat(s, what), m.seat(s, what));
            }
        }
    }

    private void tapes() {
        if (below(4) == 0) {
            newCabin();
        } else {
            Checks.due("no cabin", Checks.cabin(x, "row 3 flight 5;wake 1<2=3;"), 1 + 16 * 23);
        }
    }
}
