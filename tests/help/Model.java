import java.util.ArrayList;
import java.util.HashMap;
import java.util.List;
import java.util.Map;

/** The document told a second time, as plainly as can be and with no thought of what it costs. */
final class Model {
    static final int NEVER = 5_000_000;

    Spec c;
    int tick;
    int wakings;
    int vain;
    int spills;
    int lates;
    int[] need = new int[5];
    int[] out = new int[5];
    List<List<Integer>> wokenAt = new ArrayList<>();
    int[] asked = new int[5];
    int[] spilt = new int[5];
    int[] late = new int[5];
    boolean[] cup = new boolean[5];
    List<List<Boolean>> touches = new ArrayList<>();
    List<List<Integer>> went = new ArrayList<>();
    List<Model> past = new ArrayList<>();

    Model(Spec c) {
        this.c = c;
        cup = c.cup.clone();
        for (int i = 0; i < 5; i++) {
            wokenAt.add(new ArrayList<>());
            touches.add(new ArrayList<>());
            went.add(new ArrayList<>());
        }
    }

    Model copy() {
        Model m = new Model(c);
        m.takeState(this);
        for (int i = 0; i < 5; i++) {
            m.touches.get(i).addAll(touches.get(i));
            m.went.get(i).addAll(went.get(i));
        }
        return m;
    }

    void takeState(Model o) {
        tick = o.tick;
        wakings = o.wakings;
        vain = o.vain;
        spills = o.spills;
        lates = o.lates;
        need = o.need.clone();
        out = o.out.clone();
        asked = o.asked.clone();
        spilt = o.spilt.clone();
        late = o.late.clone();
        cup = o.cup.clone();
        for (int i = 0; i < 5; i++) {
            wokenAt.set(i, new ArrayList<>(o.wokenAt.get(i)));
        }
    }

    boolean is(int i) {
        return i >= 0 && i < c.people.size();
    }

    Spec.Person p(int i) {
        return c.people.get(i);
    }

    int on(int seat) {
        for (int i = 0; i < c.people.size(); i++) {
            if (p(i).seat == seat) {
                return i;
            }
        }
        return -1;
    }

    int depth(int i) {
        return p(i).kind == 4 ? 0 : p(i).kind == 2 ? p(i).depth / 2 : p(i).depth;
    }

    int legs(int i) {
        return p(i).legs + (p(i).kind == 3 ? 4 : 0);
    }

    int growth(int i) {
        return p(i).needs * (p(i).kind == 1 ? 2 : 1);
    }

    boolean shut(int t) {
        return t >= c.flight || c.shut[t];
    }

    boolean asleep(int i, int t) {
        if (out[i] != 0 || t < p(i).from || t >= p(i).to) {
            return false;
        }
        for (int w : wokenAt.get(i)) {
            if (w >= t - 3 && w <= t) {
                return false;
            }
        }
        return true;
    }

    private static int within(int v, int most) {
        return v < 0 ? 0 : v > most ? most : v;
    }

    private Map<String, Integer> facts(int i, int t) {
        Map<String, Integer> f = new HashMap<>();
        f.put("tick", t);
        f.put("depth", depth(i));
        f.put("legs", legs(i));
        f.put("cup", cup[p(i).seat] ? 1 : 0);
        f.put("asked", asked[i]);
        return f;
    }

    int waking(int i, int t) {
        if (p(i).kind == 4) {
            return 10;
        }
        return c.wake == null ? 10 - depth(i) : within(c.wake.worth(facts(i, t)), 10);
    }

    int spilling(int i, int side, int t) {
        if (c.spill == null) {
            return 3 + side;
        }
        Map<String, Integer> f = facts(i, t);
        f.put("gap", c.gap);
        f.put("side", side);
        return within(c.spill.worth(f), 10);
    }

    int queue(int t, int outs) {
        return c.queue == null ? 0 : within(c.queue.worth(Map.of("tick", t, "out", outs)), 9);
    }

    int outs() {
        int n = 0;
        for (int o : out) {
            n += o != 0 ? 1 : 0;
        }
        return n;
    }

    List<Integer> aheadOf(int i, int t) {
        List<Integer> list = new ArrayList<>();
        for (int s = p(i).seat + 1; s < c.seats; s++) {
            if (on(s) >= 0 && asleep(on(s), t)) {
                list.add(on(s));
            }
        }
        return list;
    }

    int digit(int ways, int seat) {
        return Integer.parseInt("" + new StringBuilder("00000" + Integer.toString(ways, 3)).reverse().charAt(seat));
    }

    boolean waysOk(int ways) {
        return ways >= 0 && ways < Math.round(Math.pow(3, c.seats));
    }

    // ---- goings

    boolean past(List<Integer> sleepers, int ways, int luck) {
        for (int s : sleepers) {
            int way = digit(ways, p(s).seat);
            boolean lucky = (luck >> p(s).seat) % 2 == 1;
            if (way == 0) {
                asked[s]++;
                if (!lucky) {
                    vain++;
                    return false;
                }
                wokenAt.get(s).add(tick);
                wakings++;
            } else if (!lucky) {
                spilt[s]++;
                spills++;
                wakings++;
                wokenAt.get(s).add(tick);
                cup[p(s).seat] = false;
            }
        }
        return true;
    }

    void keep() {
        past.add(copy());
        if (past.size() > 12) {
            past.remove(0);
        }
    }

    int go(int i, int ways, int luck) {
        if (!is(i) || !waysOk(ways) || luck < 0 || luck >= Math.pow(2, c.seats) || out[i] != 0 || asleep(i, tick) || shut(tick)) {
            return -1;
        }
        keep();
        if (!past(aheadOf(i, tick), ways, luck)) {
            return 0;
        }
        out[i] = 1 + queue(tick, outs());
        need[i] = 0;
        return 1;
    }

    int back(int i, int ways, int luck) {
        if (!is(i) || !waysOk(ways) || luck < 0 || luck >= Math.pow(2, c.seats) || out[i] != -1 || shut(tick)) {
            return -1;
        }
        keep();
        List<Integer> list = aheadOf(i, tick);
        java.util.Collections.reverse(list);
        if (!past(list, ways, luck)) {
            return 0;
        }
        out[i] = 0;
        return 1;
    }

    boolean undo() {
        if (past.isEmpty()) {
            return false;
        }
        takeState(past.remove(past.size() - 1));
        return true;
    }

    int ticks(int many) {
        if (many < 1 || many > 72) {
            return -1;
        }
        past.clear();
        for (int k = 0; k < many && tick < c.flight; k++) {
            for (int i = 0; i < c.people.size(); i++) {
                need[i] = out[i] > 0 ? need[i] : Math.min(199, need[i] + growth(i));
                if (need[i] > p(i).limit) {
                    late[i]++;
                    lates++;
                }
                if (out[i] > 0) {
                    out[i]--;
                    out[i] = out[i] == 0 ? -1 : out[i];
                }
            }
            tick++;
        }
        return tick;
    }

    // ---- odds and costs

    int needAfter(int i, int many) {
        int n = need[i];
        int o = out[i];
        for (int k = 0; k < many; k++) {
            if (o > 0) {
                o--;
            } else {
                n = Math.min(199, n + growth(i));
            }
        }
        return n;
    }

    int length(int i) {
        if (!is(i)) {
            return -1;
        }
        for (int k = 1; tick + k <= c.flight; k++) {
            if (needAfter(i, k) > p(i).limit) {
                return k;
            }
        }
        return -1;
    }

    int chance(int i, int ways, boolean clean, int t) {
        long top = 1;
        long below = 1;
        for (int s : aheadOf(i, t)) {
            int way = digit(ways, p(s).seat);
            if (way == 0) {
                top *= waking(s, t);
                below *= 10;
            } else if (clean) {
                top *= 10 - spilling(s, way - 1, t);
                below *= 10;
            }
        }
        return (int) (top * 10000 / below);
    }

    int cost(int i, int ways, int t, boolean vainToo) {
        int cost = 0;
        for (int s : aheadOf(i, t)) {
            int way = digit(ways, p(s).seat);
            cost += way == 0 ? c.price[0] * 10000 : c.price[1] * spilling(s, way - 1, t) * 1000;
        }
        return vainToo ? cost + c.price[2] * (10000 - chance(i, ways, false, t)) : cost;
    }

    int best(int i, int t) {
        List<Integer> list = aheadOf(i, t);
        int best = -1;
        int least = 0;
        for (int ways = 0; ways < Math.pow(3, c.seats); ways++) {
            boolean plain = true;
            for (int seat = 0; seat < c.seats; seat++) {
                plain &= digit(ways, seat) == 0 || on(seat) >= 0 && list.contains(on(seat));
            }
            if (plain) {
                int cost = cost(i, ways, t, true);
                if (best < 0 || cost < least) {
                    best = ways;
                    least = cost;
                }
            }
        }
        return best;
    }

    // ---- wait or go

    private final Map<String, long[]> known = new HashMap<>();
    private final Map<Integer, int[]> going = new HashMap<>();
    private boolean byWakings;

    /** What is least from a TICK with a need: {all in all, 1 if he goes}. */
    private long[] least(int i, int t, int n) {
        if (t >= c.flight) {
            return new long[] {0, 0};
        }
        String key = t + " " + n;
        if (known.containsKey(key)) {
            return known.get(key);
        }
        int grown = Math.min(199, n + growth(i));
        long tooLate = grown > p(i).limit ? byWakings ? NEVER : 1000L * c.price[2] : 0;
        long wait = tooLate + least(i, t + 1, grown)[0];
        long[] answer = {wait, 0};
        if (!asleep(i, t) && !shut(t)) {
            int there = t + queue(t, 0) + 1;
            long again = there < c.flight ? paid(i, there)[0] + least(i, there, 0)[0] : 0;
            int[] paid = paid(i, t);
            long go = paid[0] + (paid[1] * again + (10000 - paid[1]) * wait) / 10000;
            if (go < wait) {
                answer = new long[] {go, 1};
            }
        }
        known.put(key, answer);
        return answer;
    }

    private int[] paid(int i, int t) {
        return going.computeIfAbsent(t, k -> {
            if (byWakings) {
                return new int[] {aheadOf(i, k).size(), 10000};
            }
            int ways = best(i, k);
            return new int[] {cost(i, ways, k, false) / 10, chance(i, ways, false, k)};
        });
    }

    int regime(int i, int what) {
        if (!is(i) || out[i] != 0 || what < 0 || what > 1) {
            return -1;
        }
        known.clear();
        going.clear();
        byWakings = false;
        return (int) least(i, tick, need[i])[what];
    }

    int fewest(int i, int what) {
        if (!is(i) || out[i] != 0 || what < 0 || what > 1) {
            return -1;
        }
        known.clear();
        going.clear();
        byWakings = true;
        long all = least(i, tick, need[i])[0];
        if (all >= NEVER) {
            return -1;
        }
        if (what == 0) {
            return (int) all;
        }
        for (int t = tick; t < c.flight; t++) {
            if (least(i, t, needAfter(i, t - tick))[1] == 1) {
                return t;
            }
        }
        return -1;
    }

    int before(int i) {
        int found = -1;
        for (int t = tick; is(i) && t < c.flight; t++) {
            if (!shut(t) && needAfter(i, t - tick) <= p(i).limit) {
                found = t;
            }
        }
        return found;
    }

    int standing(int i) {
        if (!is(i) || out[i] != -1) {
            return -1;
        }
        int found = -1;
        long least = Long.MAX_VALUE;
        for (int k = 0; k <= 12; k++) {
            if (!shut(tick + k)) {
                long cost = 10000L * k * c.price[3] + cost(i, best(i, tick + k), tick + k, false);
                if (cost < least) {
                    found = k;
                    least = cost;
                }
            }
        }
        return found;
    }

    // ---- flights by habits

    /** A flight from its beginning; draws is null if all wake who are asked, else {g}. */
    static final class Flight {
        final Model m;
        final int[] went = new int[5];
        final int[] woken = new int[5];

        Flight(Spec c, int[] seatOf, int thirsty, long[] draws) {
            Spec moved = moved(c, seatOf, thirsty);
            m = new Model(moved);
            List<Integer> order = new ArrayList<>();
            for (int seat = c.seats - 1; seat >= 0; seat--) {
                if (m.on(seat) >= 0) {
                    order.add(m.on(seat));
                }
            }
            while (m.tick < moved.flight) {
                for (int i : order) {
                    if (m.out[i] == -1) {
                        List<Integer> list = m.aheadOf(i, m.tick);
                        java.util.Collections.reverse(list);
                        if (wakeAll(list, draws)) {
                            m.out[i] = 0;
                        }
                    }
                }
                for (int i : order) {
                    if (m.out[i] == 0 && !m.asleep(i, m.tick) && m.need[i] >= m.p(i).goes && !m.shut(m.tick)
                            && wakeAll(m.aheadOf(i, m.tick), draws)) {
                        m.out[i] = 1 + m.queue(m.tick, m.outs());
                        m.need[i] = 0;
                        went[i]++;
                    }
                }
                m.ticks(1);
            }
        }

        private boolean wakeAll(List<Integer> list, long[] draws) {
            for (int s : list) {
                if (draws != null) {
                    draws[0] = (draws[0] * 1103515245 + 12345) % 2147483648L;
                    int odds = m.waking(s, m.tick);
                    m.asked[s]++;
                    if (draws[0] / 65536 % 10 >= odds) {
                        m.vain++;
                        return false;
                    }
                }
                m.wokenAt.get(s).add(m.tick);
                m.wakings++;
                woken[s]++;
            }
            return true;
        }

        int pence() {
            return m.wakings * m.c.price[0] + m.lates * m.c.price[2];
        }

        int pence(int i) {
            return woken[i] * m.c.price[0] + m.late[i] * m.c.price[2];
        }

        private static Spec moved(Spec c, int[] seatOf, int thirsty) {
            Spec s = new Spec(new java.util.Random(1));
            s.people.clear();
            for (int i = 0; i < c.people.size(); i++) {
                Spec.Person a = c.people.get(i);
                Spec.Person b = new Spec.Person();
                b.kind = a.kind;
                b.seat = seatOf[i];
                b.needs = a.needs + (i == thirsty ? 1 : 0);
                b.limit = a.limit;
                b.goes = a.goes;
                b.depth = a.depth;
                b.legs = a.legs;
                b.from = a.from;
                b.to = a.to;
                s.people.add(b);
            }
            s.seats = c.seats;
            s.flight = c.flight;
            s.gap = c.gap;
            s.feign = c.feign;
            s.price = c.price;
            System.arraycopy(c.cup, 0, s.cup, 0, 5);
            System.arraycopy(c.shut, 0, s.shut, 0, 72);
            s.wake = c.wake;
            s.spill = c.spill;
            s.queue = c.queue;
            return s;
        }
    }

    int[] toldSeats() {
        int[] seatOf = new int[5];
        for (int i = 0; i < c.people.size(); i++) {
            seatOf[i] = p(i).seat;
        }
        return seatOf;
    }

    int habits(int i, int what) {
        if (what < 0 || what > 2 || i != -1 && !is(i)) {
            return -1;
        }
        Flight f = new Flight(c, toldSeats(), -1, null);
        if (i == -1) {
            return new int[] {f.m.wakings, f.m.lates, f.pence()}[what];
        }
        return new int[] {f.went[i], f.woken[i], f.m.late[i]}[what];
    }

    private int[] bestOrder;
    private int bestPence;

    int seated(int what) {
        int many = c.people.size();
        if (many == 0 || what < -1 || what >= many) {
            return -2;
        }
        if (bestOrder == null) {
            List<Integer> places = new ArrayList<>();
            for (int seat = 0; seat < c.seats; seat++) {
                if (on(seat) >= 0) {
                    places.add(seat);
                }
            }
            trySeats(places, new ArrayList<>());
        }
        return what == -1 ? bestPence : bestOrder[what];
    }

    private void trySeats(List<Integer> places, List<Integer> order) {
        if (order.size() == places.size()) {
            int[] seatOf = new int[5];
            for (int k = 0; k < order.size(); k++) {
                seatOf[order.get(k)] = places.get(k);
            }
            int pence = new Flight(c, seatOf, -1, null).pence();
            if (bestOrder == null || pence < bestPence) {
                bestPence = pence;
                bestOrder = order.stream().mapToInt(a -> a).toArray();
            }
            return;
        }
        for (int i = 0; i < places.size(); i++) {
            if (!order.contains(i)) {
                List<Integer> more = new ArrayList<>(order);
                more.add(i);
                trySeats(places, more);
            }
        }
    }

    long aisle(int i) {
        if (!is(i)) {
            return Checks.THROWS;
        }
        int[] seatOf = toldSeats();
        int there = i;
        for (int k = 0; k < c.people.size(); k++) {
            there = seatOf[k] > seatOf[there] ? k : there;
        }
        int first = new Flight(c, seatOf, -1, null).pence(i);
        int kept = seatOf[i];
        seatOf[i] = seatOf[there];
        seatOf[there] = kept;
        if (there == i) {
            return 0;
        }
        return first - new Flight(c, seatOf, -1, null).pence(i);
    }

    long beer(int i) {
        if (!is(i) || p(i).needs == 9) {
            return Checks.THROWS;
        }
        return new Flight(c, toldSeats(), i, null).pence() - new Flight(c, toldSeats(), -1, null).pence();
    }

    int flights(int seed, int many, int what) {
        if (seed < 0 || seed > 9999 || many < 1 || many > 20 || what < 0 || what > 2) {
            return -1;
        }
        long[] g = {seed};
        int all = 0;
        for (int k = 0; k < many; k++) {
            Model m = new Flight(c, toldSeats(), -1, g).m;
            all += what == 0 ? m.wakings : what == 1 ? m.vain : m.lates;
        }
        return all;
    }

    // ---- the rest

    int rests(int set, int what) {
        List<Integer> who = new ArrayList<>();
        for (int i = 0; i < 31; i++) {
            if ((set >> i & 1) == 1) {
                who.add(i);
            }
        }
        if (set < 0 || who.size() < 2 || who.size() > 3 || who.get(who.size() - 1) >= c.people.size() || what < -1) {
            return -1;
        }
        List<Integer> found = new ArrayList<>();
        int all = who.size() == 2 ? 144 : 1728;
        for (int code = 0; code < all; code++) {
            int[] picks = {code / 144, code / 12 % 12, code % 12};
            if (who.size() == 2) {
                picks = new int[] {code / 12, code % 12};
            }
            boolean rests = true;
            for (int k = 0; k < picks.length && rests; k++) {
                int pays = pays(who, picks, k);
                for (int t = 0; t < 12; t++) {
                    int[] other = picks.clone();
                    other[k] = t;
                    rests &= pays(who, other, k) >= pays;
                }
            }
            if (rests) {
                found.add(code);
            }
        }
        return what == -1 ? found.size() : what < found.size() ? found.get(what) : -1;
    }

    private int pays(List<Integer> who, int[] picks, int k) {
        int i = who.get(k);
        int n = needAfter(i, picks[k]);
        int pays = n > p(i).limit ? 20 : (p(i).limit - n) / 10;
        for (int o = 0; o < picks.length; o++) {
            pays += o != k && p(who.get(o)).seat > p(i).seat && picks[o] != picks[k] ? 3 : 0;
        }
        return pays;
    }

    boolean touch(int i, boolean moved) {
        return is(i) && touches.get(i).size() < 15 && touches.get(i).add(moved);
    }

    long truly(int i, int what) {
        if (!is(i) || what < 0 || what > 1) {
            return -1;
        }
        java.math.BigInteger a = java.math.BigInteger.ONE;
        java.math.BigInteger b = java.math.BigInteger.ONE;
        for (boolean moved : touches.get(i)) {
            a = a.multiply(java.math.BigInteger.valueOf(moved ? c.feign : 10 - c.feign));
            b = b.multiply(java.math.BigInteger.valueOf(moved ? 10 - p(i).depth : p(i).depth));
        }
        b = a.add(b);
        if (b.signum() == 0) {
            return -1;
        }
        return (what == 0 ? a : b).divide(a.gcd(b)).longValueExact();
    }

    boolean went(int i, int t) {
        if (!is(i) || t < 0 || t > 71 || went.get(i).size() == 12) {
            return false;
        }
        List<Integer> list = went.get(i);
        return (list.isEmpty() || list.get(list.size() - 1) < t) && list.add(t);
    }

    int fits(int i, int what) {
        if (!is(i) || what < 0 || what > 1 || went.get(i).isEmpty()) {
            return -1;
        }
        int many = 0;
        int first = -1;
        for (int needs = 0; needs < 10; needs++) {
            for (int goes = 1; goes < 100; goes++) {
                if (walks(went.get(i), needs, goes)) {
                    first = many == 0 ? needs * 100 + goes : first;
                    many++;
                }
            }
        }
        return many == 0 ? -1 : what == 0 ? many : first;
    }

    private static boolean walks(List<Integer> told, int needs, int goes) {
        List<Integer> at = new ArrayList<>();
        int n = 0;
        boolean away = false;
        for (int t = 0; t <= told.get(told.size() - 1); t++) {
            away = false;
            if (n >= goes) {
                at.add(t);
                n = 0;
                away = true;
            }
            n = away ? 0 : Math.min(199, n + needs);
        }
        return at.equals(told);
    }

    int cups() {
        int n = 0;
        for (boolean b : cup) {
            n += b ? 1 : 0;
        }
        return n;
    }

    int sitter(int i, int what) {
        if (!is(i) || what < 0 || what > 9) {
            return -1;
        }
        return new int[] {p(i).kind, p(i).seat, need[i], asleep(i, tick) ? 1 : 0, out[i], depth(i), legs(i), asked[i],
            spilt[i], late[i]}[what];
    }

    int seat(int s, int what) {
        if (s < 0 || s >= c.seats || what < 0 || what > 2) {
            return -1;
        }
        int i = on(s);
        return new int[] {i, cup[s] ? 1 : 0, i >= 0 && out[i] == 0 ? 1 : 0}[what];
    }

    int count(int what) {
        if (what < 0 || what > 10) {
            return -1;
        }
        return new int[] {c.seats, c.flight, c.people.size(), tick, wakings, vain, spills, lates, cups(), c.gap,
            past.size()}[what];
    }
}
