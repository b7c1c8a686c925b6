import java.util.Arrays;
import java.util.NoSuchElementException;

/** A row of a cabin in which some sleep, and one must get past them. */
public final class PastSleep {
    public static final int NONE = -1;

    private static final int MOST_SEATS = 5;
    private static final int MOST_TICKS = 72;
    private static final int MOST_SIGNS = 1000;
    private static final int MOST_NEED = 199;
    private static final int MOST_UNDONE = 12;
    private static final int MOST_MARKS = 4;
    private static final int MOST_TOUCHES = 15;
    private static final int MOST_WENT = 12;
    private static final int NEXT_TICKS = 12;
    private static final int WHOLE = 10000;

    private static final int STANDS = -1;
    private static final int LONG_AGO = -100;
    private static final int NOBODY = -2;

    private static final int DRINKER = 1;
    private static final int LIGHT = 2;
    private static final int TALL = 3;
    private static final int FEIGNER = 4;

    private static final int WAKE_LAW = 0;
    private static final int SPILL_LAW = 1;
    private static final int QUEUE_LAW = 2;

    private static final int[] THREES = {1, 3, 9, 27, 81, 243};

    private final Tokens tokens;
    private final Reader reader;
    private final Ahead ahead;
    private final Plans plans;
    private final Habits habits;
    private final Rests rests;
    private final State[] past;
    private final Cabin[] markedCabins;
    private final State[] markedStates;
    private final Tells[] markedTells;
    private final boolean[] laid;
    private final State now;
    private final Tells tells;
    private Cabin told;
    private Cabin spare;
    private int pastNext;
    private int pastMany;

    public PastSleep() {
        tokens = new Tokens();
        reader = new Reader();
        ahead = new Ahead();
        plans = new Plans();
        habits = new Habits();
        rests = new Rests();
        told = new Cabin();
        spare = new Cabin();
        now = new State();
        tells = new Tells();
        past = new State[MOST_UNDONE];
        for (int i = 0; i < MOST_UNDONE; i++) {
            past[i] = new State();
        }
        laid = new boolean[MOST_MARKS];
        markedCabins = new Cabin[MOST_MARKS];
        markedStates = new State[MOST_MARKS];
        markedTells = new Tells[MOST_MARKS];
        for (int i = 0; i < MOST_MARKS; i++) {
            markedCabins[i] = new Cabin();
            markedStates[i] = new State();
            markedTells[i] = new Tells();
        }
    }

    public int feed(long a, long b, long c) {
        tokens.put(a);
        tokens.put(b);
        tokens.put(c);
        return tokens.many;
    }

    public int cabin() {
        int fault = reader.read(tokens, spare);
        tokens.many = 0;
        if (fault != 0) {
            return fault;
        }
        Cabin read = spare;
        spare = told;
        told = read;
        now.begin(told);
        tells.clear();
        habits.forget();
        forgetPast();
        return 0;
    }

    public int sitter(int sitter, int what) {
        if (!known(sitter)) {
            return NONE;
        }
        Sitter one = told.sitters[sitter];
        switch (what) {
            case 0: return one.kind;
            case 1: return one.seat;
            case 2: return now.need[sitter];
            case 3: return now.asleep(told, sitter, now.tick) ? 1 : 0;
            case 4: return now.out[sitter];
            case 5: return one.deep();
            case 6: return one.legsLong();
            case 7: return now.asked[sitter];
            case 8: return now.spilt[sitter];
            case 9: return now.late[sitter];
            default: return NONE;
        }
    }

    public int seat(int seat, int what) {
        if (seat < 0 || seat >= told.seats) {
            return NONE;
        }
        int who = told.sitterOn[seat];
        switch (what) {
            case 0: return who;
            case 1: return now.cup[seat];
            case 2: return known(who) && now.out[who] == 0 ? 1 : 0;
            default: return NONE;
        }
    }

    public int shut(int tick) {
        if (tick < 0 || tick >= told.flight) {
            return NONE;
        }
        return told.closed(tick) ? 1 : 0;
    }

    public int go(int sitter, int ways, int luck) {
        if (!known(sitter) || !rightWays(ways) || !rightLuck(luck) || now.out[sitter] != 0
                || now.asleep(told, sitter, now.tick) || told.closed(now.tick)) {
            return NONE;
        }
        keepPast();
        if (!passOut(sitter, ways, luck)) {
            return 0;
        }
        now.leave(told, sitter);
        return 1;
    }

    public int back(int sitter, int ways, int luck) {
        if (!known(sitter) || !rightWays(ways) || !rightLuck(luck) || now.out[sitter] != STANDS
                || told.closed(now.tick)) {
            return NONE;
        }
        keepPast();
        if (!passIn(sitter, ways, luck)) {
            return 0;
        }
        now.out[sitter] = 0;
        return 1;
    }

    public boolean undo() {
        if (pastMany == 0) {
            return false;
        }
        pastNext = (pastNext + MOST_UNDONE - 1) % MOST_UNDONE;
        pastMany--;
        now.take(past[pastNext]);
        return true;
    }

    public int ticks(int many) {
        if (many < 1 || many > MOST_TICKS) {
            return NONE;
        }
        forgetPast();
        for (int i = 0; i < many; i++) {
            if (now.tick < told.flight) {
                now.pass(told, NONE);
            }
        }
        return now.tick;
    }

    public int length(int sitter) {
        if (!known(sitter)) {
            return NONE;
        }
        for (int many = 1; now.tick + many <= told.flight; many++) {
            if (now.needIn(told, sitter, many) > told.sitters[sitter].limit) {
                return many;
            }
        }
        return NONE;
    }

    public int sleep(int sitter) {
        if (!known(sitter)) {
            return NONE;
        }
        return now.asleep(told, sitter, now.tick) ? told.sitters[sitter].to - now.tick : 0;
    }

    public int odds(int sitter, int way) {
        if (!known(sitter) || way < 0 || way > 2) {
            return NONE;
        }
        return way == 0 ? told.waking(now, sitter, now.tick) : told.spilling(now, sitter, now.tick, way - 1);
    }

    public int chance(int sitter, int ways, boolean clean) {
        if (!movable(sitter) || !rightWays(ways)) {
            return NONE;
        }
        ahead.look(told, now, sitter, now.tick);
        return ahead.through(ways, clean);
    }

    public int cost(int sitter, int ways) {
        if (!movable(sitter) || !rightWays(ways)) {
            return NONE;
        }
        ahead.look(told, now, sitter, now.tick);
        return ahead.whole(ways);
    }

    public int best(int sitter) {
        if (!movable(sitter)) {
            return NONE;
        }
        ahead.look(told, now, sitter, now.tick);
        return ahead.cheapest();
    }

    public int side(int sitter) {
        if (!known(sitter) || !now.asleep(told, sitter, now.tick)) {
            return NONE;
        }
        int knees = told.spilling(now, sitter, now.tick, 0);
        int armrests = told.spilling(now, sitter, now.tick, 1);
        return armrests < knees ? 1 : 0;
    }

    public int regime(int sitter, int what) {
        if (!known(sitter) || now.out[sitter] != 0 || what < 0 || what > 1) {
            return NONE;
        }
        plans.byCost(told, now, sitter, ahead);
        if (what == 0) {
            return plans.least;
        }
        return plans.first == now.tick ? 1 : 0;
    }

    public int fewest(int sitter, int what) {
        if (!known(sitter) || now.out[sitter] != 0 || what < 0 || what > 1) {
            return NONE;
        }
        plans.byWakings(told, now, sitter, ahead);
        if (plans.least >= Plans.NEVER) {
            return NONE;
        }
        return what == 0 ? plans.least : plans.first;
    }

    public int before(int sitter) {
        if (!known(sitter)) {
            return NONE;
        }
        for (int tick = told.flight - 1; tick >= now.tick; tick--) {
            if (!told.closed(tick) && now.needIn(told, sitter, tick - now.tick) <= told.sitters[sitter].limit) {
                return tick;
            }
        }
        return NONE;
    }

    public int standing(int sitter) {
        if (!known(sitter) || now.out[sitter] != STANDS) {
            return NONE;
        }
        int found = NONE;
        int least = 0;
        for (int many = 0; many <= 12; many++) {
            int tick = now.tick + many;
            if (!told.closed(tick)) {
                ahead.look(told, now, sitter, tick);
                int cost = many * told.price[3] * WHOLE + ahead.paid(ahead.cheapest());
                if (found == NONE || cost < least) {
                    found = many;
                    least = cost;
                }
            }
        }
        return found;
    }

    public int habits(int sitter, int what) {
        if (what < 0 || what > 2 || sitter != NONE && !known(sitter)) {
            return NONE;
        }
        habits.seatAsTold(told);
        habits.fly(told, NONE);
        if (sitter == NONE) {
            return what == 0 ? habits.state.wakings : what == 1 ? habits.state.lateInAll : habits.pence(told);
        }
        return what == 0 ? habits.went[sitter] : what == 1 ? habits.roused[sitter] : habits.state.late[sitter];
    }

    public int seated(int what) {
        if (told.many == 0 || what < NONE || what >= told.many) {
            return NOBODY;
        }
        habits.rank(told);
        return what == NONE ? habits.least : habits.order[what];
    }

    public int aisle(int sitter) throws NoSuchElementException {
        if (!known(sitter)) {
            throw new NoSuchElementException("no such sitter");
        }
        return habits.saved(told, sitter);
    }

    public int beer(int sitter) throws NoSuchElementException {
        if (!known(sitter) || told.sitters[sitter].needs >= 9) {
            throw new NoSuchElementException("no such sitter, or needs are 9");
        }
        habits.seatAsTold(told);
        habits.fly(told, NONE);
        int without = habits.pence(told);
        habits.fly(told, sitter);
        return habits.pence(told) - without;
    }

    public int rests(int set, int what) {
        if (what < NONE || !rests.choose(told, now, set)) {
            return NONE;
        }
        return what == NONE ? rests.howMany() : rests.find(what);
    }

    public boolean touch(int sitter, boolean moved) {
        return known(sitter) && tells.addTouch(sitter, moved);
    }

    public long truly(int sitter, int what) {
        if (!known(sitter) || what < 0 || what > 1) {
            return NONE;
        }
        int moves = 10 - told.sitters[sitter].depth;
        long feigns = tells.likely(sitter, told.feign);
        long both = feigns + tells.likely(sitter, moves);
        if (both == 0) {
            return NONE;
        }
        return (what == 0 ? feigns : both) / commonDivisor(both, feigns);
    }

    public boolean went(int sitter, int tick) {
        return known(sitter) && tells.addWent(sitter, tick);
    }

    public int fits(int sitter, int what) {
        if (!known(sitter) || what < 0 || what > 1) {
            return NONE;
        }
        int many = 0;
        int first = NONE;
        for (int needs = 0; needs <= 9; needs++) {
            for (int goes = 1; goes <= 99; goes++) {
                if (tells.fitting(sitter, needs, goes)) {
                    many++;
                    first = first == NONE ? 100 * needs + goes : first;
                }
            }
        }
        return many == 0 ? NONE : what == 0 ? many : first;
    }

    public int flights(int seed, int many, int what) {
        if (seed < 0 || seed > 9999 || many < 1 || many > 20 || what < 0 || what > 2) {
            return NONE;
        }
        habits.draw(told, seed, many);
        return what == 0 ? habits.drawnWakings : what == 1 ? habits.drawnVain : habits.drawnLate;
    }

    public boolean mark(int mark, boolean back) {
        if (mark < 0 || mark >= MOST_MARKS || back && !laid[mark]) {
            return false;
        }
        if (back) {
            told.take(markedCabins[mark]);
            now.take(markedStates[mark]);
            tells.take(markedTells[mark]);
            habits.forget();
            forgetPast();
        } else {
            markedCabins[mark].take(told);
            markedStates[mark].take(now);
            markedTells[mark].take(tells);
            laid[mark] = true;
        }
        return true;
    }

    public int count(int what) {
        switch (what) {
            case 0: return told.seats;
            case 1: return told.flight;
            case 2: return told.many;
            case 3: return now.tick;
            case 4: return now.wakings;
            case 5: return now.vain;
            case 6: return now.spills;
            case 7: return now.lateInAll;
            case 8: return now.cups();
            case 9: return told.gap;
            case 10: return pastMany;
            case 11: return tokens.many;
            default: return NONE;
        }
    }

    private boolean known(int sitter) {
        return sitter >= 0 && sitter < told.many;
    }

    private boolean movable(int sitter) {
        return known(sitter) && now.out[sitter] <= 0;
    }

    private boolean rightWays(int ways) {
        return ways >= 0 && ways < THREES[told.seats];
    }

    private boolean rightLuck(int luck) {
        return luck >= 0 && luck < 1 << told.seats;
    }

    private void keepPast() {
        past[pastNext].take(now);
        pastNext = (pastNext + 1) % MOST_UNDONE;
        pastMany = Math.min(pastMany + 1, MOST_UNDONE);
    }

    private void forgetPast() {
        pastMany = 0;
    }

    private boolean passOut(int sitter, int ways, int luck) {
        for (int place = told.sitters[sitter].seat + 1; place < told.seats; place++) {
            if (!passSeat(place, ways, luck)) {
                return false;
            }
        }
        return true;
    }

    private boolean passIn(int sitter, int ways, int luck) {
        for (int place = told.seats - 1; place > told.sitters[sitter].seat; place--) {
            if (!passSeat(place, ways, luck)) {
                return false;
            }
        }
        return true;
    }

    private boolean passSeat(int place, int ways, int luck) {
        int other = told.sitterOn[place];
        if (!known(other) || !now.asleep(told, other, now.tick)) {
            return true;
        }
        boolean lucky = (luck >> place & 1) == 1;
        if (Ahead.wayAt(ways, place) == 0) {
            return now.ask(other, lucky);
        }
        if (!lucky) {
            now.spillOn(other, place);
        }
        return true;
    }

    private static long commonDivisor(long one, long other) {
        long a = one;
        long b = other;
        for (int i = 0; i < 200 && b != 0; i++) {
            long rest = a % b;
            a = b;
            b = rest;
        }
        return a == 0 ? 1 : a;
    }

    /** The TAPE, and the token that is looked at while it is read: its kind, its place, its value (a word's number). */
    private static final class Tokens {
        static final int END = 0;
        static final int STRANGE = 1;
        static final int WORD = 2;
        static final int NUMBER = 3;
        static final int SIGN = 4;

        /* The words by their numbers; the facts are the last eight. */
        static final int ROW = 0;
        static final int FLIGHT = 1;
        static final int SITTER = 2;
        static final int AT = 3;
        static final int NEEDS = 4;
        static final int LIMIT = 5;
        static final int GOES = 6;
        static final int SLEEPS = 7;
        static final int TO = 8;
        static final int BELT = 9;
        static final int TROLLEY = 10;
        static final int PRICE = 11;
        static final int FEIGN = 12;
        static final int WAKE = 13;
        static final int SPILL = 14;
        static final int QUEUE = 15;
        static final int PLAIN = 16;
        static final int FEIGNER_KIND = 20;
        static final int NOT = 21;
        static final int AND = 22;
        static final int OR = 23;
        static final int DEPTH = 24;
        static final int LEGS = 25;
        static final int CUP = 26;
        static final int GAP = 27;
        static final int TICK = 28;
        static final int ASKED = 29;
        static final int SIDE = 30;
        static final int OUT = 31;
        static final int MANY = 32;
        static final int OTHER = -1;

        private static final String WORDS = "row flight sitter at needs limit goes sleeps to belt trolley price feign wake spill queue plain drinker light tall feigner not and or depth legs cup gap tick asked side out ";

        final char[] tape = new char[MOST_SIGNS];
        int many;
        int place;
        int kind;
        int value;
        long letters;
        private int next;

        void put(long eight) {
            for (int shift = 56; shift >= 0; shift -= 8) {
                int sign = (int) (eight >>> shift & 255);
                if ((sign == 10 || sign >= 32 && sign <= 126) && many < MOST_SIGNS) {
                    tape[many] = (char) sign;
                    many++;
                }
            }
        }

        void begin() {
            next = 0;
            step();
        }

        void step() {
            while (next < many && (tape[next] == 10 || tape[next] == ' ')) {
                next++;
            }
            place = next;
            value = 0;
            int first = next < many ? tape[next] : 0;
            if (first == 0) {
                kind = END;
            } else if (isLetter(first)) {
                readWord();
                value = indexOf(tape, place, next);
            } else if (isDigit(first)) {
                readNumber();
            } else {
                kind = isSign(first) ? SIGN : STRANGE;
                value = first;
                next++;
            }
        }

        private void readWord() {
            letters = 0;
            for (; next < many && isLetter(tape[next]); next++) {
                letters = letters * 32 + tape[next] - 'a' + 1;
            }
            kind = next - place <= 8 ? WORD : STRANGE;
        }

        private void readNumber() {
            for (; next < many && isDigit(tape[next]); next++) {
                value = value * 10 + tape[next] - '0';
            }
            kind = next - place <= 4 ? NUMBER : STRANGE;
        }

        private static int indexOf(char[] tape, int from, int to) {
            int index = 0;
            int at = from;
            boolean same = true;
            for (int i = 0; i < WORDS.length(); i++) {
                char sign = WORDS.charAt(i);
                if (sign == ' ') {
                    if (same && at == to) {
                        return index;
                    }
                    index++;
                    at = from;
                    same = true;
                } else {
                    same = same && at < to && tape[at] == sign;
                    at++;
                }
            }
            return OTHER;
        }

        /** A NAME may be any word but these; the facts that no line begins with may be names. */
        static boolean reserved(int word) {
            return word >= 0 && word < TICK;
        }

        static boolean isFactOf(int word, int law) {
            switch (word) {
                case TICK: return true;
                case DEPTH: case LEGS: case CUP: case ASKED: return law != QUEUE_LAW;
                case GAP: case SIDE: return law == SPILL_LAW;
                case OUT: return law == QUEUE_LAW;
                default: return false;
            }
        }

        private static boolean isLetter(int sign) {
            return sign >= 'a' && sign <= 'z';
        }

        private static boolean isDigit(int sign) {
            return sign >= '0' && sign <= '9';
        }

        private static boolean isSign(int sign) {
            return sign == '(' || sign == ')' || sign == '<' || sign == '=' || sign == '+' || sign == '-'
                || sign == '*' || sign == ';';
        }
    }

    /** Reads the TAPE as a CABIN. Behind the first FAULT nothing more is taken from it. */
    private static final class Reader {
        private static final int MOST_WITHIN = 5;
        private static final int JOINS = 4;

        private final long[] names = new long[MOST_SEATS];
        private final int[] times = new int[Tokens.MANY];
        private Tokens tokens;
        private Cabin c;
        private int fault;

        int read(Tokens from, Cabin into) {
            tokens = from;
            c = into;
            c.clear();
            fault = 0;
            Arrays.fill(times, 0);
            tokens.begin();
            readRow();
            for (int i = 0; i < MOST_SIGNS && fault == 0 && tokens.kind != Tokens.END; i++) {
                int word = tokens.kind == Tokens.WORD ? tokens.value : Tokens.OTHER;
                checkTimes(word);
                switch (word) {
                    case Tokens.SITTER: readSitter(); break;
                    case Tokens.CUP: readCup(); break;
                    case Tokens.BELT: readShut(word); break;
                    case Tokens.TROLLEY: readShut(word); break;
                    case Tokens.GAP: readWord(word); c.gap = readNumber(5, 20); break;
                    case Tokens.PRICE: readPrices(); break;
                    case Tokens.FEIGN: readWord(word); c.feign = readNumber(0, 10); break;
                    case Tokens.WAKE: readLaw(WAKE_LAW); break;
                    case Tokens.SPILL: readLaw(SPILL_LAW); break;
                    case Tokens.QUEUE: readLaw(QUEUE_LAW); break;
                    default: wrong(1);
                }
                readSign(';');
            }
            return fault;
        }

        private void wrong(int kind) {
            if (fault == 0) {
                fault = kind + 16 * tokens.place;
            }
        }

        private boolean stands(int kind, int value) {
            return fault == 0 && tokens.kind == kind && tokens.value == value;
        }

        private void readWord(int word) {
            if (stands(Tokens.WORD, word)) {
                tokens.step();
            } else {
                wrong(1);
            }
        }

        private void readSign(char sign) {
            if (stands(Tokens.SIGN, sign)) {
                tokens.step();
            } else {
                wrong(1);
            }
        }

        private int readNumber(int least, int most) {
            if (fault != 0) {
                return least;
            }
            int value = tokens.value;
            if (tokens.kind != Tokens.NUMBER) {
                wrong(1);
            } else if (value < least || value > most) {
                wrong(4);
            } else {
                tokens.step();
                return value;
            }
            return least;
        }

        private void readRow() {
            readWord(Tokens.ROW);
            c.seats = readNumber(2, MOST_SEATS);
            readWord(Tokens.FLIGHT);
            c.flight = readNumber(1, MOST_TICKS);
            readSign(';');
        }

        private void checkTimes(int word) {
            if (word < 0 || word >= Tokens.MANY) {
                return;
            }
            boolean shuts = word == Tokens.BELT || word == Tokens.TROLLEY;
            boolean once = word == Tokens.GAP || word >= Tokens.PRICE && word <= Tokens.QUEUE;
            if (shuts && times[word] >= 4) {
                wrong(5);
            }
            if (once && times[word] >= 1) {
                wrong(3);
            }
            times[word]++;
        }

        private void readSitter() {
            Sitter one = c.sitters[Math.min(c.many, MOST_SEATS - 1)];
            readWord(Tokens.SITTER);
            readName();
            readKind(one);
            readWord(Tokens.AT);
            one.seat = readSeat(false);
            readWord(Tokens.NEEDS);
            one.needs = readNumber(0, 9);
            readWord(Tokens.LIMIT);
            one.limit = readNumber(1, 99);
            readWord(Tokens.GOES);
            one.goes = readNumber(1, 99);
            readWord(Tokens.DEPTH);
            one.depth = readNumber(0, 9);
            readWord(Tokens.LEGS);
            one.legs = readNumber(20, 40);
            readWord(Tokens.SLEEPS);
            one.from = readNumber(0, MOST_TICKS);
            readWord(Tokens.TO);
            one.to = readNumber(one.from, MOST_TICKS);
            if (fault == 0 && c.many < MOST_SEATS) {
                c.sitterOn[one.seat] = c.many;
                c.many++;
            }
        }

        private void readName() {
            if (fault != 0) {
                return;
            }
            if (tokens.kind != Tokens.WORD || Tokens.reserved(tokens.value)) {
                wrong(1);
                return;
            }
            for (int i = 0; i < c.many; i++) {
                if (names[i] == tokens.letters) {
                    wrong(3);
                    return;
                }
            }
            if (c.many < MOST_SEATS) {
                names[c.many] = tokens.letters;
            }
            tokens.step();
        }

        private void readKind(Sitter one) {
            if (fault != 0) {
                return;
            }
            if (tokens.kind != Tokens.WORD || tokens.value < Tokens.PLAIN || tokens.value > Tokens.FEIGNER_KIND) {
                wrong(1);
                return;
            }
            one.kind = tokens.value - Tokens.PLAIN;
            tokens.step();
        }

        private int readSeat(boolean forCup) {
            if (fault == 0 && tokens.kind == Tokens.NUMBER && tokens.value < c.seats) {
                boolean taken = forCup ? c.cup[tokens.value] != 0 : c.sitterOn[tokens.value] != NONE;
                if (taken) {
                    wrong(3);
                }
            }
            return readNumber(0, c.seats - 1);
        }

        private void readCup() {
            readWord(Tokens.CUP);
            int seat = readSeat(true);
            if (fault == 0) {
                c.cup[seat] = 1;
            }
        }

        private void readShut(int word) {
            readWord(word);
            int from = readNumber(0, MOST_TICKS - 1);
            readWord(Tokens.TO);
            int to = readNumber(from, MOST_TICKS - 1);
            for (int tick = from; tick <= to && fault == 0; tick++) {
                c.shut[tick] = 1;
            }
        }

        private void readPrices() {
            readWord(Tokens.PRICE);
            for (int i = 0; i < c.price.length; i++) {
                c.price[i] = readNumber(0, 99);
            }
        }

        private void readLaw(int law) {
            readWord(Tokens.WAKE + law);
            c.laws.begin(law);
            readJoined(law, 0, 0);
            c.laws.end(law);
        }

        /** Reads an E (rank 0), a TEST (1), a SUM (2), a PRODUCT (3) or a PART, within so many of not and ( ). */
        private void readJoined(int law, int rank, int within) {
            if (rank >= JOINS) {
                readPart(law, within);
                return;
            }
            readJoined(law, rank + 1, within);
            int most = rank == 1 ? 1 : MOST_SIGNS;
            for (int i = 0; i < most && fault == 0; i++) {
                int join = joinOf(rank);
                if (join == 0) {
                    return;
                }
                tokens.step();
                readJoined(law, rank + 1, within);
                c.laws.add(join);
            }
        }

        private int joinOf(int rank) {
            if (rank == 0) {
                return stands(Tokens.WORD, Tokens.AND) ? Laws.AND : stands(Tokens.WORD, Tokens.OR) ? Laws.OR : 0;
            }
            if (rank == 1) {
                return stands(Tokens.SIGN, '<') ? Laws.LESS : stands(Tokens.SIGN, '=') ? Laws.SAME : 0;
            }
            if (rank == 2) {
                return stands(Tokens.SIGN, '+') ? Laws.PLUS : stands(Tokens.SIGN, '-') ? Laws.MINUS : 0;
            }
            return stands(Tokens.SIGN, '*') ? Laws.TIMES : 0;
        }

        private void readPart(int law, int within) {
            boolean number = fault == 0 && tokens.kind == Tokens.NUMBER;
            boolean fact = fault == 0 && tokens.kind == Tokens.WORD && Tokens.isFactOf(tokens.value, law);
            boolean not = stands(Tokens.WORD, Tokens.NOT);
            boolean opens = stands(Tokens.SIGN, '(');
            if (!number && !fact && !not && !opens) {
                wrong(1);
                return;
            }
            if (within >= MOST_WITHIN) {
                wrong(5);
                return;
            }
            int value = tokens.value;
            tokens.step();
            if (number) {
                c.laws.add(value);
            } else if (fact) {
                c.laws.add(Laws.FACTS - (value - Tokens.DEPTH));
            } else if (not) {
                readPart(law, within + 1);
                c.laws.add(Laws.NOT);
            } else {
                readJoined(law, 0, within + 1);
                readSign(')');
            }
        }
    }

    /** The E of wake, spill, queue, each a run of steps that work on a stack. */
    private static final class Laws {
        static final int NOT = -1;
        static final int AND = -2;
        static final int OR = -3;
        static final int LESS = -4;
        static final int SAME = -5;
        static final int PLUS = -6;
        static final int MINUS = -7;
        static final int TIMES = -8;
        static final int FACTS = -9;

        private final int[] facts = new int[Tokens.MANY - Tokens.DEPTH];
        private final int[] told = new int[3];
        private final int[] from = new int[3];
        private final int[] to = new int[3];
        private final int[] steps = new int[MOST_SIGNS];
        private final int[] stack = new int[40];
        private int many;

        void clear() {
            many = 0;
            Arrays.fill(told, 0);
        }

        void take(Laws other) {
            many = other.many;
            System.arraycopy(other.steps, 0, steps, 0, many);
            System.arraycopy(other.told, 0, told, 0, told.length);
            System.arraycopy(other.from, 0, from, 0, from.length);
            System.arraycopy(other.to, 0, to, 0, to.length);
        }

        void begin(int law) {
            from[law] = many;
        }

        void end(int law) {
            to[law] = many;
            told[law] = 1;
        }

        boolean isTold(int law) {
            return told[law] != 0;
        }

        void add(int step) {
            if (many < steps.length) {
                steps[many] = step;
                many++;
            }
        }

        void setFact(int word, int value) {
            facts[word - Tokens.DEPTH] = value;
        }

        int result(int law) {
            int top = 0;
            for (int i = from[law]; i < to[law]; i++) {
                int step = steps[i];
                if (step >= 0 || step <= FACTS) {
                    if (top < stack.length) {
                        stack[top] = step >= 0 ? step : factOf(step);
                        top++;
                    }
                } else if (step == NOT) {
                    if (top >= 1) {
                        stack[top - 1] = stack[top - 1] == 0 ? 1 : 0;
                    }
                } else if (top >= 2) {
                    top--;
                    stack[top - 1] = joined(step, stack[top - 1], stack[top]);
                }
            }
            return stack[0];
        }

        private int factOf(int step) {
            int fact = FACTS - step;
            return fact >= 0 && fact < facts.length ? facts[fact] : 0;
        }

        private static int joined(int join, int a, int b) {
            switch (join) {
                case AND: return a != 0 && b != 0 ? 1 : 0;
                case OR: return a != 0 || b != 0 ? 1 : 0;
                case LESS: return a < b ? 1 : 0;
                case SAME: return a == b ? 1 : 0;
                case PLUS: return a + b;
                case MINUS: return a - b;
                default: return a * b;
            }
        }
    }

    /** A sitter as told. */
    private static final class Sitter {
        int kind;
        int seat;
        int needs;
        int limit;
        int goes;
        int depth;
        int legs;
        int from;
        int to;

        void take(Sitter other) {
            kind = other.kind;
            seat = other.seat;
            needs = other.needs;
            limit = other.limit;
            goes = other.goes;
            depth = other.depth;
            legs = other.legs;
            from = other.from;
            to = other.to;
        }

        int growth(int more) {
            return (needs + more) * (kind == DRINKER ? 2 : 1);
        }

        int deep() {
            return kind == FEIGNER ? 0 : kind == LIGHT ? depth / 2 : depth;
        }

        int legsLong() {
            return kind == TALL ? legs + 4 : legs;
        }
    }

    /** A CABIN as told. */
    private static final class Cabin {
        final Sitter[] sitters = new Sitter[MOST_SEATS];
        final int[] sitterOn = new int[MOST_SEATS];
        final int[] cup = new int[MOST_SEATS];
        final int[] shut = new int[MOST_TICKS];
        final int[] price = new int[4];
        final Laws laws = new Laws();
        int seats;
        int flight;
        int many;
        int gap;
        int feign;

        Cabin() {
            for (int i = 0; i < MOST_SEATS; i++) {
                sitters[i] = new Sitter();
            }
            clear();
        }

        void clear() {
            seats = 2;
            flight = 1;
            many = 0;
            gap = 11;
            feign = 9;
            Arrays.fill(sitterOn, NONE);
            Arrays.fill(cup, 0);
            Arrays.fill(shut, 0);
            Arrays.fill(price, 1);
            laws.clear();
        }

        void take(Cabin other) {
            seats = other.seats;
            flight = other.flight;
            many = other.many;
            gap = other.gap;
            feign = other.feign;
            for (int i = 0; i < MOST_SEATS; i++) {
                sitters[i].take(other.sitters[i]);
            }
            System.arraycopy(other.sitterOn, 0, sitterOn, 0, sitterOn.length);
            System.arraycopy(other.cup, 0, cup, 0, cup.length);
            System.arraycopy(other.shut, 0, shut, 0, shut.length);
            System.arraycopy(other.price, 0, price, 0, price.length);
            laws.take(other.laws);
        }

        /** The AISLE is closed in TICKS that are SHUT and in those that are not of the flight. */
        boolean closed(int tick) {
            return tick < 0 || tick >= flight || tick >= MOST_TICKS || shut[tick] != 0;
        }

        int waking(State s, int who, int tick) {
            Sitter one = sitters[who];
            if (one.kind == FEIGNER) {
                return 10;
            }
            if (!laws.isTold(WAKE_LAW)) {
                return 10 - one.deep();
            }
            setSleeper(s, who, tick);
            return bounded(laws.result(WAKE_LAW), 10);
        }

        int spilling(State s, int who, int tick, int side) {
            if (!laws.isTold(SPILL_LAW)) {
                return 3 + side;
            }
            setSleeper(s, who, tick);
            laws.setFact(Tokens.GAP, gap);
            laws.setFact(Tokens.SIDE, side);
            return bounded(laws.result(SPILL_LAW), 10);
        }

        /** The TICKS that one is OUT who goes in a TICK. */
        int away(int tick, int out) {
            if (!laws.isTold(QUEUE_LAW)) {
                return 1;
            }
            laws.setFact(Tokens.TICK, tick);
            laws.setFact(Tokens.OUT, out);
            return 1 + bounded(laws.result(QUEUE_LAW), 9);
        }

        private void setSleeper(State s, int who, int tick) {
            Sitter one = sitters[who];
            laws.setFact(Tokens.TICK, tick);
            laws.setFact(Tokens.DEPTH, one.deep());
            laws.setFact(Tokens.LEGS, one.legsLong());
            laws.setFact(Tokens.CUP, s.cup[one.seat]);
            laws.setFact(Tokens.ASKED, s.asked[who]);
        }

        private static int bounded(int value, int most) {
            return Math.max(0, Math.min(most, value));
        }
    }

    /** How it stands in a TICK. */
    private static final class State {
        final int[] need = new int[MOST_SEATS];
        final int[] out = new int[MOST_SEATS];
        final int[] woken = new int[MOST_SEATS];
        final int[] asked = new int[MOST_SEATS];
        final int[] spilt = new int[MOST_SEATS];
        final int[] late = new int[MOST_SEATS];
        final int[] cup = new int[MOST_SEATS];
        int tick;
        int wakings;
        int vain;
        int spills;
        int lateInAll;

        void begin(Cabin c) {
            tick = 0;
            wakings = 0;
            vain = 0;
            spills = 0;
            lateInAll = 0;
            Arrays.fill(need, 0);
            Arrays.fill(out, 0);
            Arrays.fill(woken, LONG_AGO);
            Arrays.fill(asked, 0);
            Arrays.fill(spilt, 0);
            Arrays.fill(late, 0);
            System.arraycopy(c.cup, 0, cup, 0, cup.length);
        }

        void take(State other) {
            tick = other.tick;
            wakings = other.wakings;
            vain = other.vain;
            spills = other.spills;
            lateInAll = other.lateInAll;
            System.arraycopy(other.need, 0, need, 0, need.length);
            System.arraycopy(other.out, 0, out, 0, out.length);
            System.arraycopy(other.woken, 0, woken, 0, woken.length);
            System.arraycopy(other.asked, 0, asked, 0, asked.length);
            System.arraycopy(other.spilt, 0, spilt, 0, spilt.length);
            System.arraycopy(other.late, 0, late, 0, late.length);
            System.arraycopy(other.cup, 0, cup, 0, cup.length);
        }

        boolean asleep(Cabin c, int who, int at) {
            Sitter one = c.sitters[who];
            return out[who] == 0 && one.from <= at && at < one.to && at - woken[who] > 3;
        }

        boolean ask(int who, boolean wakes) {
            asked[who]++;
            if (wakes) {
                wake(who);
            } else {
                vain++;
            }
            return wakes;
        }

        void wake(int who) {
            woken[who] = tick;
            wakings++;
        }

        void spillOn(int who, int place) {
            spilt[who]++;
            spills++;
            cup[place] = 0;
            wake(who);
        }

        void leave(Cabin c, int who) {
            out[who] = c.away(tick, outside(c));
            need[who] = 0;
        }

        int outside(Cabin c) {
            int many = 0;
            for (int i = 0; i < c.many; i++) {
                if (out[i] != 0) {
                    many++;
                }
            }
            return many;
        }

        int cups() {
            int many = 0;
            for (int i = 0; i < cup.length; i++) {
                many += cup[i];
            }
            return many;
        }

        /** One's need so many TICKS on if he does not go; the TICKS that he is OUT yet add nothing. */
        int needIn(Cabin c, int who, int many) {
            int grows = Math.max(0, many - Math.max(0, out[who]));
            return Math.min(MOST_NEED, need[who] + grows * c.sitters[who].growth(0));
        }

        /** A TICK passes; the needs of the thirsty one are 1 more. */
        void pass(Cabin c, int thirsty) {
            for (int i = 0; i < c.many; i++) {
                Sitter one = c.sitters[i];
                if (out[i] <= 0) {
                    need[i] = Math.min(MOST_NEED, need[i] + one.growth(i == thirsty ? 1 : 0));
                }
                if (need[i] > one.limit) {
                    late[i]++;
                    lateInAll++;
                }
                if (out[i] > 0) {
                    out[i] = out[i] == 1 ? STANDS : out[i] - 1;
                }
            }
            tick++;
        }
    }

    /** What was told of the sitters: touches, and the TICKS at which they went. */
    private static final class Tells {
        private final int[] moved = new int[MOST_SEATS];
        private final int[] still = new int[MOST_SEATS];
        private final int[] wentMany = new int[MOST_SEATS];
        private final int[] wentAt = new int[MOST_SEATS * MOST_WENT];

        void clear() {
            Arrays.fill(moved, 0);
            Arrays.fill(still, 0);
            Arrays.fill(wentMany, 0);
        }

        void take(Tells other) {
            System.arraycopy(other.moved, 0, moved, 0, moved.length);
            System.arraycopy(other.still, 0, still, 0, still.length);
            System.arraycopy(other.wentMany, 0, wentMany, 0, wentMany.length);
            System.arraycopy(other.wentAt, 0, wentAt, 0, wentAt.length);
        }

        boolean addTouch(int who, boolean moves) {
            if (moved[who] + still[who] >= MOST_TOUCHES) {
                return false;
            }
            if (moves) {
                moved[who]++;
            } else {
                still[who]++;
            }
            return true;
        }

        /** The weight of the touches told if one moves with so many of ten. */
        long likely(int who, int moves) {
            long weight = 1;
            for (int i = 0; i < moved[who]; i++) {
                weight *= moves;
            }
            for (int i = 0; i < still[who]; i++) {
                weight *= 10 - moves;
            }
            return weight;
        }

        boolean addWent(int who, int tick) {
            int many = wentMany[who];
            int last = many == 0 ? -1 : wentAt[who * MOST_WENT + many - 1];
            if (many >= MOST_WENT || tick < 0 || tick >= MOST_TICKS || tick <= last) {
                return false;
            }
            wentAt[who * MOST_WENT + many] = tick;
            wentMany[who]++;
            return true;
        }

        boolean fitting(int who, int needs, int goes) {
            if (wentMany[who] == 0 || needs <= 0) {
                return false;
            }
            int wait = (goes + needs - 1) / needs;
            int due = wait;
            for (int i = 0; i < wentMany[who]; i++) {
                int tick = wentAt[who * MOST_WENT + i];
                if (tick != due) {
                    return false;
                }
                due = tick + 1 + wait;
            }
            return true;
        }
    }

    /** The sleepers whom one has ahead of him, and what it is to get past them by WAYS. */
    private static final class Ahead {
        private final int[] place = new int[MOST_SEATS];
        private final int[] wake = new int[MOST_SEATS];
        private final int[] spill = new int[MOST_SEATS * 2];
        private final int[] climb = new int[MOST_SEATS];
        private final int[] price = new int[4];
        int many;

        void look(Cabin c, State s, int who, int tick) {
            many = 0;
            System.arraycopy(c.price, 0, price, 0, price.length);
            for (int i = c.sitters[who].seat + 1; i < c.seats; i++) {
                int other = c.sitterOn[i];
                if (other != NONE && s.asleep(c, other, tick)) {
                    place[many] = i;
                    addSleeper(c.waking(s, other, tick), c.spilling(s, other, tick, 0), c.spilling(s, other, tick, 1));
                }
            }
        }

        private void addSleeper(int waking, int knees, int armrests) {
            wake[many] = waking;
            spill[many * 2] = knees;
            spill[many * 2 + 1] = armrests;
            climb[many] = price[1] * armrests < price[1] * knees ? 2 : 1;
            many++;
        }

        static int wayAt(int ways, int digit) {
            return ways / THREES[digit] % 3;
        }

        int through(int ways, boolean clean) {
            int odds = WHOLE;
            for (int i = 0; i < many; i++) {
                int way = wayAt(ways, place[i]);
                if (way == 0) {
                    odds = odds * wake[i] / 10;
                } else if (clean) {
                    odds = odds * (10 - spill[i * 2 + way - 1]) / 10;
                }
            }
            return odds;
        }

        /** COST without the part in vain. */
        int paid(int ways) {
            int cost = 0;
            for (int i = 0; i < many; i++) {
                int way = wayAt(ways, place[i]);
                cost += way == 0 ? price[0] * WHOLE : price[1] * spill[i * 2 + way - 1] * (WHOLE / 10);
            }
            return cost;
        }

        int whole(int ways) {
            return paid(ways) + price[2] * (WHOLE - through(ways, false));
        }

        /** Climbing past a sleeper, one side is never dearer, so the choice is whom to climb past. */
        int cheapest() {
            int found = 0;
            int least = whole(0);
            for (int climbed = 1; climbed < 1 << many; climbed++) {
                int ways = waysPast(climbed);
                int cost = whole(ways);
                if (cost < least) {
                    found = ways;
                    least = cost;
                }
            }
            return found;
        }

        private int waysPast(int climbed) {
            int ways = 0;
            for (int i = 0; i < many; i++) {
                ways += (climbed >> i & 1) * climb[i] * THREES[place[i]];
            }
            return ways;
        }
    }

    /** Wait or go, by states, from now till the flight's end. */
    private static final class Plans {
        static final int NEVER = 1_000_000;

        int least;
        int first;
        private final boolean[] free = new boolean[MOST_TICKS + 1];
        private final int[] paid = new int[MOST_TICKS + 1];
        private final int[] odds = new int[MOST_TICKS + 1];
        private final int[] again = new int[MOST_TICKS + 1];
        private final int[] fresh = new int[MOST_TICKS + 1];
        private final int[] since = new int[MOST_TICKS + 2];

        void byCost(Cabin c, State s, int who, Ahead ahead) {
            for (int tick = s.tick; tick < c.flight; tick++) {
                ahead.look(c, s, who, tick);
                int ways = ahead.cheapest();
                paid[tick] = ahead.paid(ways) / 10;
                odds[tick] = ahead.through(ways, false);
            }
            plan(c, s, who, 1000 * c.price[2]);
        }

        void byWakings(Cabin c, State s, int who, Ahead ahead) {
            for (int tick = s.tick; tick < c.flight; tick++) {
                ahead.look(c, s, who, tick);
                paid[tick] = ahead.many;
                odds[tick] = WHOLE;
            }
            plan(c, s, who, NEVER);
        }

        /**
         * The states of a TICK are told by the TICKS since the need was 0, and one more: he has not gone yet.
         * fresh keeps what is least from each TICK with need 0, since from the TICK at hand by all needs.
         */
        private void plan(Cabin c, State s, int who, int late) {
            Sitter one = c.sitters[who];
            int growth = one.growth(0);
            Arrays.fill(since, 0);
            least = 0;
            first = NONE;
            for (int tick = c.flight - 1; tick >= s.tick; tick--) {
                free[tick] = !c.closed(tick) && !s.asleep(c, who, tick);
                again[tick] = tick + c.away(tick, 0);
                int behind = again[tick] < c.flight ? paid[again[tick]] + fresh[again[tick]] : 0;
                for (int k = 0; k <= tick; k++) {
                    int wait = since[k + 1] + (growth * (k + 1) > one.limit ? late : 0);
                    since[k] = lesser(tick, wait, behind);
                }
                fresh[tick] = since[0];
                int need = s.need[who] + growth * (tick - s.tick + 1);
                int wait = least + (need > one.limit ? late : 0);
                least = lesser(tick, wait, behind);
                first = least < wait ? tick : first;
            }
        }

        private int lesser(int tick, int wait, int behind) {
            if (!free[tick]) {
                return wait;
            }
            long going = (long) odds[tick] * behind + (long) (WHOLE - odds[tick]) * wait;
            return (int) Math.min(wait, paid[tick] + going / WHOLE);
        }
    }

    /** Flights by habits, drawn or not; the state is the last one's at its end. */
    private static final class Habits {
        final State state = new State();
        final int[] went = new int[MOST_SEATS];
        final int[] roused = new int[MOST_SEATS];
        final int[] order = new int[MOST_SEATS];
        int least;
        int drawnWakings;
        int drawnVain;
        int drawnLate;
        private final int[] on = new int[MOST_SEATS];
        private final int[] trial = new int[MOST_SEATS];
        private boolean ranked;
        private boolean drawing;
        private int g;

        void seatAsTold(Cabin c) {
            System.arraycopy(c.sitterOn, 0, on, 0, on.length);
        }

        void fly(Cabin c, int thirsty) {
            state.begin(c);
            Arrays.fill(went, 0);
            Arrays.fill(roused, 0);
            for (int tick = 0; tick < c.flight; tick++) {
                for (int place = c.seats - 1; place >= 0; place--) {
                    comeBack(c, place);
                }
                for (int place = c.seats - 1; place >= 0 && !c.closed(tick); place--) {
                    goOut(c, place);
                }
                state.pass(c, thirsty);
            }
        }

        private void comeBack(Cabin c, int place) {
            int who = on[place];
            if (who == NONE || state.out[who] != STANDS) {
                return;
            }
            for (int i = c.seats - 1; i > place; i--) {
                if (!rouse(c, on[i])) {
                    return;
                }
            }
            state.out[who] = 0;
        }

        private void goOut(Cabin c, int place) {
            int who = on[place];
            if (who == NONE || state.out[who] != 0 || state.need[who] < c.sitters[who].goes
                    || state.asleep(c, who, state.tick)) {
                return;
            }
            for (int i = place + 1; i < c.seats; i++) {
                if (!rouse(c, on[i])) {
                    return;
                }
            }
            state.leave(c, who);
            went[who]++;
        }

        private boolean rouse(Cabin c, int who) {
            if (who == NONE || !state.asleep(c, who, state.tick)) {
                return true;
            }
            boolean wakes = !drawing || drawBelow(10) < c.waking(state, who, state.tick);
            if (wakes) {
                roused[who]++;
            }
            return state.ask(who, wakes);
        }

        private int drawBelow(int most) {
            g = (int) (g * 1103515245L + 12345 & 0x7fffffffL);
            return g / 65536 % most;
        }

        int pence(Cabin c) {
            return c.price[0] * state.wakings + c.price[2] * state.lateInAll;
        }

        private int penceOf(Cabin c, int who) {
            return c.price[0] * roused[who] + c.price[2] * state.late[who];
        }

        int saved(Cabin c, int who) {
            seatAsTold(c);
            fly(c, NONE);
            int here = penceOf(c, who);
            int nearest = c.seats - 1;
            while (nearest > 0 && on[nearest] == NONE) {
                nearest--;
            }
            on[c.sitters[who].seat] = on[nearest];
            on[nearest] = who;
            fly(c, NONE);
            return here - penceOf(c, who);
        }

        void draw(Cabin c, int seed, int many) {
            drawnWakings = 0;
            drawnVain = 0;
            drawnLate = 0;
            g = seed;
            drawing = true;
            seatAsTold(c);
            for (int i = 0; i < many; i++) {
                fly(c, NONE);
                drawnWakings += state.wakings;
                drawnVain += state.vain;
                drawnLate += state.lateInAll;
            }
            drawing = false;
        }

        void forget() {
            ranked = false;
        }

        /** Finds the order with the least PENCE; kept till the CABIN is another one. */
        void rank(Cabin c) {
            if (ranked) {
                return;
            }
            ranked = true;
            for (int i = 0; i < c.many; i++) {
                trial[i] = i;
            }
            least = NONE;
            boolean more = true;
            for (int i = 0; i < 120 && more; i++) {
                seatAsTried(c);
                fly(c, NONE);
                int pence = pence(c);
                if (least == NONE || pence < least) {
                    least = pence;
                    System.arraycopy(trial, 0, order, 0, order.length);
                }
                more = nextTrial(c.many);
            }
        }

        private void seatAsTried(Cabin c) {
            int next = 0;
            for (int place = 0; place < c.seats; place++) {
                on[place] = NONE;
                if (c.sitterOn[place] != NONE && next < c.many) {
                    on[place] = trial[next];
                    next++;
                }
            }
        }

        /** The next order of so many, as words in a dictionary follow; false behind the last one. */
        private boolean nextTrial(int many) {
            int at = many - 2;
            while (at >= 0 && trial[at] > trial[at + 1]) {
                at--;
            }
            if (at < 0) {
                return false;
            }
            int with = many - 1;
            while (with > at && trial[with] < trial[at]) {
                with--;
            }
            swapTrials(at, with);
            for (int a = at + 1, b = many - 1; a < b; a++, b--) {
                swapTrials(a, b);
            }
            return true;
        }

        private void swapTrials(int a, int b) {
            int kept = trial[a];
            trial[a] = trial[b];
            trial[b] = kept;
        }
    }

    /** Two or three who each choose a TICK to go. */
    private static final class Rests {
        private final int[] place = new int[3];
        private final int[] alone = new int[3 * NEXT_TICKS];
        private final int[] pick = new int[3];
        private int many;

        boolean choose(Cabin c, State s, int set) {
            int size = Integer.bitCount(set);
            if (set < 0 || set >= 1 << c.many || size < 2 || size > 3) {
                return false;
            }
            many = 0;
            for (int who = 0; who < c.many; who++) {
                if ((set >> who & 1) == 1 && many < place.length) {
                    addChooser(c, s, who);
                }
            }
            return true;
        }

        private void addChooser(Cabin c, State s, int who) {
            int limit = c.sitters[who].limit;
            place[many] = c.sitters[who].seat;
            for (int i = 0; i < NEXT_TICKS; i++) {
                int need = s.needIn(c, who, i);
                alone[many * NEXT_TICKS + i] = need > limit ? 20 : (limit - need) / 10;
            }
            many++;
        }

        private int choices() {
            return many == 2 ? NEXT_TICKS * NEXT_TICKS : NEXT_TICKS * NEXT_TICKS * NEXT_TICKS;
        }

        int howMany() {
            int found = 0;
            for (int code = 0; code < choices(); code++) {
                if (rest(code)) {
                    found++;
                }
            }
            return found;
        }

        int find(int which) {
            int found = 0;
            for (int code = 0; code < choices(); code++) {
                if (rest(code)) {
                    if (found == which) {
                        return code;
                    }
                    found++;
                }
            }
            return NONE;
        }

        private boolean rest(int code) {
            int left = code;
            for (int i = many - 1; i >= 0; i--) {
                pick[i] = left % NEXT_TICKS;
                left /= NEXT_TICKS;
            }
            for (int i = 0; i < many; i++) {
                int pays = pays(i, pick[i]);
                for (int tick = 0; tick < NEXT_TICKS; tick++) {
                    if (pays(i, tick) < pays) {
                        return false;
                    }
                }
            }
            return true;
        }

        private int pays(int chooser, int tick) {
            int pays = alone[chooser * NEXT_TICKS + tick];
            for (int i = 0; i < many; i++) {
                if (place[i] > place[chooser] && pick[i] != tick) {
                    pays += 3;
                }
            }
            return pays;
        }
    }
}
