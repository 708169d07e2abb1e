import java.util.Arrays;

/** A samovar, its fuel, its guests and its evening of 24 minutes. */
public final class Samovar {
    public static final int NONE = -1, BAD = -2, NOT = -3, FULL = -4;

    private static final int MINUTES = 24;
    private static final int LAST_MINUTE = MINUTES - 1;
    /** The most pieces, guests, events and things seen there may be. */
    private static final int MOST = 8;
    private static final int MOST_BYTES = 31;
    private static final int MOST_WATER = 30;
    private static final int WATERS = MOST_WATER + 1;
    private static final int MOST_BREW = 40;
    private static final int MOST_NUMBER = 9;

    private static final int KINDS = 3;
    private static final int[] FIRE_OF_KIND = {3, 4, 3};
    private static final int[] MINUTES_OF_KIND = {3, 5, 9};

    private static final int WATER_EVENT = 0, BREW_EVENT = 1, BOOT_EVENT = 2;

    private static final int MOST_HEAT = 100;
    private static final int BOILING_HEAT = 80;
    private static final int PATIENCE = 6;

    private static final int ABSENT = 0, WAITS = 1, DRINKS = 2, CONTENT = 3, GONE = 4;

    private static final int FORMS = 3;
    private static final int MOST_ITEMS = 60;
    private static final int NULL = 1, INDEX = 2, CAST = 3, STORE = 4, SIZE = 5;

    private static final int CHANCE_PARTS = 16;

    private static final int LEAST_INT = 1 << 31;
    private static final long LEAST_LONG = 1L << 63;

    private final Text fuel = new Text("kbc", 3);
    private final Text guests = new Text("wd", 4);
    private final Entries events = new Entries();
    private final Entries seen = new Entries();
    private final Plan told = new Plan(fuel.entries, guests.entries, events);
    private final Evening evening = new Evening();
    private final Trials trials = new Trials(told);
    private final Sheet sheet0 = new Sheet();
    private final Sheet sheet1 = new Sheet();
    private final Sheet sheet2 = new Sheet();
    private final Sheet sheet3 = new Sheet();
    private boolean eveningKnown;
    private int finding;

    public Samovar() {
    }

    // ---- fuel, guests, water, brew, events

    public int type(int text, int b) {
        Text t = textAt(text);
        if (t == null || !within(b, 255)) {
            return BAD;
        }
        if (t.size >= MOST_BYTES) {
            return FULL;
        }
        t.append(b);
        changed();
        return t.size;
    }

    public int wipe(int text) {
        Text t = textAt(text);
        if (t == null) {
            return BAD;
        }
        int had = t.size;
        t.shorten(0);
        changed();
        return had;
    }

    public int undo(int text) {
        Text t = textAt(text);
        if (t == null) {
            return BAD;
        }
        if (t.size <= 0) {
            return NOT;
        }
        t.shorten(t.size - 1);
        changed();
        return t.size;
    }

    public int fault(int text) {
        Text t = textAt(text);
        return t == null ? BAD : t.fault;
    }

    public int piece(int piece, int what) {
        return fuel.entries.part(piece, what);
    }

    public int guest(int guest, int what) {
        return guests.entries.part(guest, what);
    }

    public int set(int what, int v) {
        int was;
        if (what == 0 && within(v, MOST_WATER)) {
            was = told.water;
            told.water = v;
        } else if (what == 1 && within(v, MOST_BREW)) {
            was = told.brew;
            told.brew = v;
        } else {
            return BAD;
        }
        changed();
        return was;
    }

    public int event(int kind, int minute, int number) {
        if (!mayBeEvent(kind, minute, number)) {
            return BAD;
        }
        if (events.size >= MOST) {
            return FULL;
        }
        events.add(minute, kind, number);
        changed();
        return events.size;
    }

    public int back() {
        if (events.size <= 0) {
            return NOT;
        }
        events.size--;
        changed();
        return events.size;
    }

    public int read(int s) {
        Sheet sheet = sheetAt(s);
        if (sheet == null) {
            return BAD;
        }
        if (sheet.lost) {
            return found(NULL);
        }
        int before = events.size;
        for (int i = 0; i + 2 < sheet.size && events.size < MOST; i += 3) {
            int kind = sheet.item(i);
            int minute = sheet.item(i + 1);
            int number = sheet.item(i + 2);
            if (!mayBeEvent(kind, minute, number)) {
                break;
            }
            events.add(minute, kind, number);
        }
        changed();
        return events.size - before;
    }

    // ---- minutes

    public int at(int minute, int what) {
        if (!within(minute, LAST_MINUTE)) {
            return BAD;
        }
        Evening e = toldEvening();
        switch (what) {
            case 0: return e.heat[minute];
            case 1: return e.water[minute];
            case 2: return e.brew[minute];
            case 3: return e.fire[minute];
            case 4: return e.boiled >> minute & 1;
            case 5: return e.served[minute];
            default: return BAD;
        }
    }

    public int is(int minute, int guest, int what) {
        if (!within(minute, LAST_MINUTE) || !guests.entries.has(guest) || !within(what, 1)) {
            return BAD;
        }
        Evening e = toldEvening();
        return what == 0 ? e.stateOf(minute, guest) : e.glassesOf(minute, guest);
    }

    public int line(int minute) {
        return within(minute, LAST_MINUTE) ? toldEvening().waiting[minute] : BAD;
    }

    public int sum(int what) {
        Evening e = toldEvening();
        switch (what) {
            case 0: return e.company.glasses;
            case 1: return Integer.bitCount(e.company.content);
            case 2: return Integer.bitCount(e.company.gone);
            case 3: return e.kettle.steamed;
            case 4: return Integer.bitCount(e.boiled);
            default: return BAD;
        }
    }

    public int first() {
        Evening e = toldEvening();
        for (int minute = 0; minute < MINUTES; minute++) {
            if ((e.boiled >> minute & 1) == 1) {
                return minute;
            }
        }
        return NONE;
    }

    public int hottest(int what) {
        if (!within(what, 1)) {
            return BAD;
        }
        Evening e = toldEvening();
        int best = 0;
        for (int minute = 1; minute < MINUTES; minute++) {
            if (e.heat[minute] > e.heat[best]) {
                best = minute;
            }
        }
        return what == 0 ? best : e.heat[best];
    }

    public int waited(int guest) {
        if (!guests.entries.has(guest)) {
            return BAD;
        }
        Evening e = toldEvening();
        int minutes = 0;
        for (int minute = 0; minute < MINUTES; minute++) {
            if (e.stateOf(minute, guest) == WAITS) {
                minutes++;
            }
        }
        return minutes;
    }

    public int thirst() {
        Evening e = toldEvening();
        int all = (1 << guests.entries.size) - 1;
        return all & ~e.company.content;
    }

    // ---- plans

    public int better(int piece, int what) {
        if (!fuel.entries.has(piece) || !within(what, 1)) {
            return BAD;
        }
        return mostGlasses(Trials.kindsOf(piece), KINDS, what);
    }

    public int fill(int what) {
        if (!within(what, 1)) {
            return BAD;
        }
        return mostGlasses(Trials.FIRST_WATER, WATERS, what);
    }

    public int come(int guest, int what) {
        if (!guests.entries.has(guest) || !within(what, 1)) {
            return BAD;
        }
        return mostGlasses(Trials.minutesOf(guest), MINUTES, what);
    }

    public int spare(int i) {
        if (i < NONE || i > 1) {
            return BAD;
        }
        int spared = sparedEvents();
        if (spared == NONE) {
            return NONE;
        }
        return i == NONE ? Integer.bitCount(spared) : bitAt(spared, i);
    }

    // ---- seen, chance, evenings

    public int seen(int minute, int is) {
        if (!within(minute, LAST_MINUTE) || !within(is, 1)) {
            return BAD;
        }
        if (seen.size >= MOST) {
            return FULL;
        }
        seen.add(minute, is, 0);
        return seen.size;
    }

    public int forget() {
        int had = seen.size;
        seen.size = 0;
        return had;
    }

    public int never() {
        int bits = 0;
        for (int i = 0; i < events.size && i < MOST; i++) {
            if (comesOutAsSeen(trials.outcome(1 << i))) {
                bits |= 1 << i;
            }
        }
        return bits;
    }

    public int waters() {
        return comingOutAsSeen(Trials.FIRST_WATER, WATERS);
    }

    public int kind(int piece) {
        return fuel.entries.has(piece) ? comingOutAsSeen(Trials.kindsOf(piece), KINDS) : BAD;
    }

    public int ask() {
        int waters = waters();
        int all = Integer.bitCount(waters);
        int best = 0;
        int least = all;
        for (int minute = 0; minute < MINUTES; minute++) {
            int boiling = boilingWaters(waters, minute);
            int greatest = Math.max(boiling, all - boiling);
            if (greatest < least) {
                best = minute;
                least = greatest;
            }
        }
        return best;
    }

    public long chance(int c, int guest, int what) {
        if (!within(c, CHANCE_PARTS) || !guests.entries.has(guest) || !within(what, 1)) {
            return LEAST_LONG - BAD;
        }
        int n = Math.min(events.size, MOST);
        long above = 0;
        for (int left = 0; left < 1 << n; left++) {
            if ((Trials.contentIn(trials.outcome(left)) >> guest & 1) == 1) {
                int missing = Integer.bitCount(left);
                above += power(c, n - missing) * power(CHANCE_PARTS - c, missing);
            }
        }
        long below = power(CHANCE_PARTS, n);
        // What is below is a power of two, so only halving can bring lower terms.
        for (int i = 0; i < 4 * MOST && below > 1 && above % 2 == 0; i++) {
            above /= 2;
            below /= 2;
        }
        return what == 0 ? above : below;
    }

    public int evenings(int seed, int n, int what) {
        if (!within(n, MOST) || !within(what, 1)) {
            return BAD;
        }
        long outcome = trials.outcomeByLots(seed, n);
        return what == 0 ? Trials.glassesIn(outcome) : Integer.bitCount(Trials.goneIn(outcome));
    }

    // ---- sheets

    public int sheet(int s, int form, int n) {
        Sheet sheet = sheetAt(s);
        if (sheet == null || !within(form, FORMS - 1) || n > MOST_ITEMS) {
            return BAD;
        }
        if (n < 0) {
            return found(SIZE);
        }
        sheet.renew(form, n);
        return n;
    }

    public int lose(int s) {
        Sheet sheet = sheetAt(s);
        if (sheet == null) {
            return BAD;
        }
        if (sheet.lost) {
            return found(NULL);
        }
        sheet.lost = true;
        return sheet.size;
    }

    public int put(int s, int form, int i, int v) {
        Sheet sheet = sheetAt(s);
        if (sheet == null || !within(form, FORMS - 1)) {
            return BAD;
        }
        int fault = sheet.faultOf(form, i);
        if (fault != 0) {
            return found(fault);
        }
        sheet.store(i, v);
        return 1;
    }

    public int get(int s, int form, int i) {
        Sheet sheet = sheetAt(s);
        if (sheet == null || !within(form, FORMS - 1)) {
            return LEAST_INT;
        }
        int fault = sheet.faultOf(form, i);
        if (fault != 0) {
            finding = fault;
            return LEAST_INT;
        }
        return sheet.item(i);
    }

    public int copy(int s, int i, int t, int j, int n) {
        Sheet from = sheetAt(s);
        Sheet to = sheetAt(t);
        if (from == null || to == null) {
            return BAD;
        }
        if (from.lost || to.lost) {
            return found(NULL);
        }
        if (from.form != to.form) {
            return found(STORE);
        }
        if (!from.hasSome(i, n) || !to.hasSome(j, n)) {
            return found(INDEX);
        }
        System.arraycopy(from.items, i, to.items, j, n);
        return 1;
    }

    public int write(int what, int s) {
        Sheet sheet = sheetAt(s);
        if (sheet == null || !within(what, 2)) {
            return BAD;
        }
        if (sheet.lost) {
            return found(NULL);
        }
        int n = Math.min(sheet.size, MINUTES);
        for (int minute = 0; minute < n; minute++) {
            sheet.store(minute, at(minute, what));
        }
        return n;
    }

    public int count(int what) {
        switch (what) {
            case 0: return fuel.entries.size;
            case 1: return guests.entries.size;
            case 2: return fuel.size + guests.size;
            case 3: return events.size;
            case 4: return sum(0);
            case 5: return told.water;
            case 6: return told.brew;
            case 7: return seen.size;
            case 8: return finding;
            default: return BAD;
        }
    }

    public long digest() {
        long h = 17;
        for (int what = 0; what <= 7; what++) {
            h = joined(h, count(what));
        }
        h = joined(h, fault(0));
        h = joined(h, fault(1));
        h = withMinutes(h);
        for (int piece = 0; piece < MOST && piece < fuel.entries.size; piece++) {
            h = withPiece(h, piece);
        }
        for (int guest = 0; guest < MOST && guest < guests.entries.size; guest++) {
            h = withGuest(h, guest);
        }
        for (int what = 0; what <= 4; what++) {
            h = joined(h, sum(what));
        }
        h = joined(h, first());
        h = joined(h, hottest(0));
        h = joined(h, hottest(1));
        h = joined(h, thirst());
        h = joined(h, fill(0));
        h = joined(h, fill(1));
        h = joined(h, spare(NONE));
        h = joined(h, spare(0));
        h = joined(h, never());
        h = joined(h, waters());
        h = joined(h, ask());
        h = joined(h, evenings(7, 6, 0));
        return joined(h, evenings(7, 6, 1));
    }

    // ---- what the calls above are made of

    private static boolean within(int v, int most) {
        return v >= 0 && v <= most;
    }

    private static boolean mayBeEvent(int kind, int minute, int number) {
        return within(kind, BOOT_EVENT) && within(minute, LAST_MINUTE) && within(number, MOST_NUMBER);
    }

    private Text textAt(int text) {
        switch (text) {
            case 0: return fuel;
            case 1: return guests;
            default: return null;
        }
    }

    private Sheet sheetAt(int s) {
        switch (s) {
            case 0: return sheet0;
            case 1: return sheet1;
            case 2: return sheet2;
            case 3: return sheet3;
            default: return null;
        }
    }

    private int found(int number) {
        finding = number;
        return -10 - number;
    }

    private void changed() {
        eveningKnown = false;
        trials.drop();
    }

    private Evening toldEvening() {
        if (!eveningKnown) {
            evening.pass(told);
            eveningKnown = true;
        }
        return evening;
    }

    /** The events that had better not be, as bits; NONE, if no two of them are enough. */
    private int sparedEvents() {
        if (Trials.goneIn(trials.outcome(0)) == 0) {
            return 0;
        }
        int n = Math.min(events.size, MOST);
        for (int i = 0; i < n; i++) {
            if (Trials.goneIn(trials.outcome(1 << i)) == 0) {
                return 1 << i;
            }
        }
        for (int i = 0; i < n; i++) {
            for (int j = i + 1; j < n; j++) {
                int two = 1 << i | 1 << j;
                if (Trials.goneIn(trials.outcome(two)) == 0) {
                    return two;
                }
            }
        }
        return NONE;
    }

    /** The number of the i-th bit that is set; NONE, if there are not so many. */
    private static int bitAt(int bits, int i) {
        int ahead = 0;
        for (int bit = 0; bit < MOST; bit++) {
            if ((bits >> bit & 1) == 1) {
                if (ahead == i) {
                    return bit;
                }
                ahead++;
            }
        }
        return NONE;
    }

    /** Of n trials: the first with most glasses (what = 0), or how many they are (1). */
    private int mostGlasses(int from, int n, int what) {
        int best = 0;
        int most = NONE;
        for (int i = 0; i < n; i++) {
            int glasses = Trials.glassesIn(trials.outcome(from + i));
            if (glasses > most) {
                best = i;
                most = glasses;
            }
        }
        return what == 0 ? best : most;
    }

    /** Of n trials those by which all that was seen comes out so, as bits. */
    private int comingOutAsSeen(int from, int n) {
        int bits = 0;
        for (int i = 0; i < n; i++) {
            if (comesOutAsSeen(trials.outcome(from + i))) {
                bits |= 1 << i;
            }
        }
        return bits;
    }

    private boolean comesOutAsSeen(long outcome) {
        int boiled = Trials.boiledIn(outcome);
        for (int i = 0; i < seen.size && i < MOST; i++) {
            if ((boiled >> seen.minute[i] & 1) != seen.kind[i]) {
                return false;
            }
        }
        return true;
    }

    private int boilingWaters(int waters, int minute) {
        int boiling = 0;
        for (int water = 0; water < WATERS; water++) {
            if ((waters >> water & 1) == 1) {
                boiling += Trials.boiledIn(trials.outcome(Trials.FIRST_WATER + water)) >> minute & 1;
            }
        }
        return boiling;
    }

    private static long power(int base, int exponent) {
        long p = 1;
        for (int i = 0; i < exponent && i < MOST; i++) {
            p *= base;
        }
        return p;
    }

    private static long joined(long h, long v) {
        return 31 * h + v;
    }

    private long withMinutes(long start) {
        long h = start;
        for (int minute = 0; minute < MINUTES; minute++) {
            for (int what = 0; what <= 5; what++) {
                h = joined(h, at(minute, what));
            }
            h = joined(h, line(minute));
        }
        return h;
    }

    private long withPiece(long start, int piece) {
        long h = start;
        for (int what = 0; what <= 2; what++) {
            h = joined(h, piece(piece, what));
        }
        h = joined(h, better(piece, 0));
        h = joined(h, better(piece, 1));
        return joined(h, kind(piece));
    }

    private long withGuest(long start, int guest) {
        long h = start;
        for (int what = 0; what <= 2; what++) {
            h = joined(h, guest(guest, what));
        }
        h = withStay(h, 4, guest);
        h = withStay(h, 11, guest);
        h = withStay(h, 23, guest);
        h = joined(h, waited(guest));
        h = joined(h, come(guest, 0));
        h = joined(h, come(guest, 1));
        h = joined(h, chance(5, guest, 0));
        return joined(h, chance(5, guest, 1));
    }

    private long withStay(long h, int minute, int guest) {
        return joined(joined(h, is(minute, guest, 0)), is(minute, guest, 1));
    }

    /** Up to eight entries of a minute, a kind and a number: fuel, guests, events, what was seen. */
    private static final class Entries {
        final int[] minute = new int[MOST];
        final int[] kind = new int[MOST];
        final int[] number = new int[MOST];
        int size;

        boolean has(int i) {
            return i >= 0 && i < size && i < MOST;
        }

        void add(int itsMinute, int itsKind, int itsNumber) {
            if (size < 0 || size >= MOST) {
                return;
            }
            minute[size] = itsMinute;
            kind[size] = itsKind;
            number[size] = itsNumber;
            size++;
        }

        int part(int i, int what) {
            if (!has(i)) {
                return BAD;
            }
            switch (what) {
                case 0: return minute[i];
                case 1: return kind[i];
                case 2: return number[i];
                default: return BAD;
            }
        }

        void becomeLike(Entries other) {
            System.arraycopy(other.minute, 0, minute, 0, MOST);
            System.arraycopy(other.kind, 0, kind, 0, MOST);
            System.arraycopy(other.number, 0, number, 0, MOST);
            size = other.size;
        }
    }

    /** Bytes of which each four are an entry: its minute, its kind, its figure, and what parts it from the next. */
    private static final class Text {
        final Entries entries = new Entries();
        private final int[] bytes = new int[MOST_BYTES];
        private final String kinds;
        private final int mostFigure;
        int size;
        int fault = NONE;

        Text(String kinds, int mostFigure) {
            this.kinds = kinds;
            this.mostFigure = mostFigure;
        }

        void append(int b) {
            if (size < 0 || size >= MOST_BYTES) {
                return;
            }
            bytes[size] = b;
            size++;
            scan();
        }

        void shorten(int newSize) {
            size = newSize;
            scan();
        }

        private void scan() {
            entries.size = 0;
            fault = size == 0 ? NONE : firstFault();
            if (fault != NONE) {
                entries.size = 0;
            }
        }

        private int firstFault() {
            for (int i = 0; i < size && i < MOST_BYTES; i++) {
                if (!fits(i % 4, bytes[i])) {
                    return i;
                }
                if (i % 4 == 2 && i >= 2) {
                    entries.add(bytes[i - 2] - 'a', kinds.indexOf((char) bytes[i - 1]), bytes[i] - '0');
                }
            }
            return size % 4 == 3 ? NONE : size;
        }

        private boolean fits(int place, int b) {
            switch (place) {
                case 0: return entries.size < MOST && b >= 'a' && b <= 'x';
                case 1: return kinds.indexOf((char) b) >= 0;
                case 2: return b >= '1' && b <= '0' + mostFigure;
                default: return b == ';';
            }
        }
    }

    /** All that an evening depends on. */
    private static final class Plan {
        final Entries fuel;
        final Entries guests;
        final Entries events;
        int water = 16;
        int brew = 16;
        /** Events that are not done, as bits. */
        int left;

        Plan(Entries fuel, Entries guests, Entries events) {
            this.fuel = fuel;
            this.guests = guests;
            this.events = events;
        }

        void becomeLike(Plan other) {
            fuel.becomeLike(other.fuel);
            guests.becomeLike(other.guests);
            events.becomeLike(other.events);
            water = other.water;
            brew = other.brew;
            left = other.left;
        }
    }

    /** Heat, water and brew as they are now. */
    private static final class Kettle {
        int heat;
        int water;
        int brew;
        int steamed;

        void begin(Plan plan) {
            heat = 0;
            water = plan.water;
            brew = plan.brew;
            steamed = 0;
        }

        /** Does the events of a minute; answers whether the boot was among them. */
        boolean meet(Plan plan, int minute) {
            Entries events = plan.events;
            boolean boot = false;
            for (int i = 0; i < events.size && i < MOST; i++) {
                if (events.minute[i] == minute && (plan.left >> i & 1) == 0) {
                    switch (events.kind[i]) {
                        case WATER_EVENT:
                            int glasses = Math.min(events.number[i], MOST_WATER - water);
                            water += glasses;
                            heat = Math.max(0, heat - 4 * glasses);
                            break;
                        case BREW_EVENT:
                            brew = Math.min(MOST_BREW, brew + events.number[i]);
                            break;
                        default:
                            boot = true;
                    }
                }
            }
            return boot;
        }

        void warm(int fire) {
            heat = Math.min(MOST_HEAT, Math.max(0, heat + fire - 2 - water / 5));
            if (heat == MOST_HEAT && water > 0) {
                water--;
                steamed++;
            }
        }

        boolean boils() {
            return heat >= BOILING_HEAT && water > 0;
        }
    }

    /** Guests as they are now. */
    private static final class Company {
        final int[] state = new int[MOST];
        final int[] had = new int[MOST];
        /** The minute in which one came to the line, or was served. */
        private final int[] since = new int[MOST];
        /** Who came to the line earlier has the lower ticket. */
        private final int[] ticket = new int[MOST];
        private int tickets;
        int waiting;
        int glasses;
        int content;
        int gone;

        void begin() {
            Arrays.fill(state, ABSENT);
            Arrays.fill(had, 0);
            tickets = 0;
            waiting = 0;
            glasses = 0;
            content = 0;
            gone = 0;
        }

        void lineUp(Entries guests, int minute) {
            for (int g = 0; g < guests.size && g < MOST; g++) {
                if (guests.minute[g] == minute) {
                    join(g, minute);
                }
            }
            for (int g = 0; g < guests.size && g < MOST; g++) {
                if (state[g] == DRINKS && since[g] + 3 + guests.kind[g] == minute) {
                    join(g, minute);
                }
            }
        }

        private void join(int g, int minute) {
            if (g < 0 || g >= MOST) {
                return;
            }
            state[g] = WAITS;
            since[g] = minute;
            ticket[g] = tickets;
            tickets++;
            waiting++;
        }

        /** Serves the first one of the line for whom there is brew enough, and answers who it is. */
        int serve(Entries guests, Kettle kettle, int minute) {
            int next = NONE;
            for (int g = 0; g < guests.size && g < MOST; g++) {
                if (state[g] == WAITS && kettle.brew >= 1 + 2 * guests.kind[g]
                        && (next < 0 || ticket[g] < ticket[next])) {
                    next = g;
                }
            }
            if (next < 0) {
                return NONE;
            }
            kettle.brew -= 1 + 2 * guests.kind[next];
            kettle.water--;
            had[next]++;
            since[next] = minute;
            waiting--;
            glasses++;
            if (had[next] >= guests.number[next]) {
                state[next] = CONTENT;
                content |= 1 << next;
            } else {
                state[next] = DRINKS;
            }
            return next;
        }

        void losePatience(int minute) {
            for (int g = 0; g < MOST; g++) {
                if (state[g] == WAITS && minute - since[g] + 1 >= PATIENCE) {
                    state[g] = GONE;
                    gone |= 1 << g;
                    waiting--;
                }
            }
        }
    }

    /** An evening, minute by minute. */
    private static final class Evening {
        final int[] heat = new int[MINUTES];
        final int[] water = new int[MINUTES];
        final int[] brew = new int[MINUTES];
        final int[] fire = new int[MINUTES];
        final int[] served = new int[MINUTES];
        final int[] waiting = new int[MINUTES];
        private final int[] states = new int[MINUTES * MOST];
        private final int[] glasses = new int[MINUTES * MOST];
        final Kettle kettle = new Kettle();
        final Company company = new Company();
        /** The minutes in which it boiled, as bits. */
        int boiled;

        void pass(Plan plan) {
            kettle.begin(plan);
            company.begin();
            boiled = 0;
            light(plan.fuel);
            for (int minute = 0; minute < MINUTES; minute++) {
                if (kettle.meet(plan, minute)) {
                    fire[minute] *= 2;
                }
                kettle.warm(fire[minute]);
                boolean boils = kettle.boils();
                company.lineUp(plan.guests, minute);
                served[minute] = boils ? company.serve(plan.guests, kettle, minute) : NONE;
                company.losePatience(minute);
                if (boils) {
                    boiled |= 1 << minute;
                }
                note(minute);
            }
        }

        private void light(Entries fuel) {
            Arrays.fill(fire, 0);
            for (int i = 0; i < fuel.size && i < MOST; i++) {
                int kind = fuel.kind[i];
                if (within(kind, KINDS - 1)) {
                    int from = Math.max(0, fuel.minute[i]);
                    int end = Math.min(MINUTES, from + MINUTES_OF_KIND[kind]);
                    for (int minute = from; minute < end; minute++) {
                        fire[minute] += FIRE_OF_KIND[kind] * fuel.number[i];
                    }
                }
            }
        }

        private void note(int minute) {
            if (!within(minute, LAST_MINUTE)) {
                return;
            }
            heat[minute] = kettle.heat;
            water[minute] = kettle.water;
            brew[minute] = kettle.brew;
            waiting[minute] = company.waiting;
            System.arraycopy(company.state, 0, states, minute * MOST, MOST);
            System.arraycopy(company.had, 0, glasses, minute * MOST, MOST);
        }

        int stateOf(int minute, int guest) {
            return within(minute, LAST_MINUTE) && within(guest, MOST - 1) ? states[minute * MOST + guest] : ABSENT;
        }

        int glassesOf(int minute, int guest) {
            return within(minute, LAST_MINUTE) && within(guest, MOST - 1) ? glasses[minute * MOST + guest] : 0;
        }
    }

    /**
     * Evenings with one thing other than told. They are numbered: first those without some of the
     * events (the events, as bits), then those with another water, with another kind of a piece,
     * with another minute of a guest. How one came out is kept until something is told, as many
     * questions ask for the same ones: in a long, with the minutes in which it boiled in bits 0 to
     * 23, who is content in 24 to 31, who is gone in 32 to 39, the glasses in 40 to 47.
     */
    private static final class Trials {
        static final int FIRST_WATER = 1 << MOST;
        private static final int FIRST_KIND = FIRST_WATER + WATERS;
        private static final int FIRST_MINUTE = FIRST_KIND + MOST * KINDS;
        private static final int ALL = FIRST_MINUTE + MOST * MINUTES;
        /** Tells an outcome that is known from 0, which is kept for one that is not. */
        private static final long KNOWN = 1L << 48;

        private final long[] outcomes = new long[ALL];
        private final Plan told;
        private final Plan other = new Plan(new Entries(), new Entries(), new Entries());
        private final Evening evening = new Evening();
        private boolean empty = true;

        Trials(Plan told) {
            this.told = told;
        }

        static int kindsOf(int piece) {
            return FIRST_KIND + piece * KINDS;
        }

        static int minutesOf(int guest) {
            return FIRST_MINUTE + guest * MINUTES;
        }

        static int boiledIn(long outcome) {
            return (int) (outcome & 0xFFFFFF);
        }

        static int contentIn(long outcome) {
            return (int) (outcome >> 24 & 0xFF);
        }

        static int goneIn(long outcome) {
            return (int) (outcome >> 32 & 0xFF);
        }

        static int glassesIn(long outcome) {
            return (int) (outcome >> 40 & 0xFF);
        }

        void drop() {
            if (!empty) {
                Arrays.fill(outcomes, 0L);
                empty = true;
            }
        }

        long outcome(int trial) {
            if (trial < 0 || trial >= ALL) {
                return 0;
            }
            if (outcomes[trial] == 0) {
                other.becomeLike(told);
                alter(trial);
                evening.pass(other);
                outcomes[trial] = pack(evening);
                empty = false;
            }
            return outcomes[trial];
        }

        private void alter(int trial) {
            if (trial < FIRST_WATER) {
                other.left = trial;
            } else if (trial < FIRST_KIND) {
                other.water = trial - FIRST_WATER;
            } else if (trial < FIRST_MINUTE) {
                int i = trial - FIRST_KIND;
                other.fuel.kind[i / KINDS] = i % KINDS;
            } else if (trial < ALL) {
                int i = trial - FIRST_MINUTE;
                other.guests.minute[i / MINUTES] = i % MINUTES;
            }
        }

        /** This one is not kept: there are as many as there are seeds. */
        long outcomeByLots(int seed, int n) {
            other.becomeLike(told);
            other.guests.size = 0;
            int s = seed;
            for (int g = 0; g < n && g < MOST; g++) {
                s = nextSeed(s);
                int minute = (s >>> 16) % MINUTES;
                s = nextSeed(s);
                int dark = (s >>> 16) % 2;
                s = nextSeed(s);
                other.guests.add(minute, dark, (s >>> 16) % 4 + 1);
            }
            evening.pass(other);
            return pack(evening);
        }

        private static int nextSeed(int seed) {
            return 1103515245 * seed + 12345;
        }

        private static long pack(Evening evening) {
            Company company = evening.company;
            return KNOWN | (long) company.glasses << 40 | (long) company.gone << 32
                    | (long) company.content << 24 | evening.boiled;
        }
    }

    /** A row of bytes, shorts or ints, held as ints that were cut to its form. */
    private static final class Sheet {
        final int[] items = new int[MOST_ITEMS];
        boolean lost = true;
        int form;
        int size;

        void renew(int newForm, int n) {
            lost = false;
            form = newForm;
            size = n;
            Arrays.fill(items, 0);
        }

        /** The finding when item i is treated as of a form; 0, if there is none. */
        int faultOf(int asForm, int i) {
            if (lost) {
                return NULL;
            }
            if (asForm != form) {
                return CAST;
            }
            return has(i) ? 0 : INDEX;
        }

        private boolean has(int i) {
            return i >= 0 && i < size && i < MOST_ITEMS;
        }

        boolean hasSome(int i, int n) {
            return i >= 0 && n >= 0 && n <= size - i;
        }

        int item(int i) {
            return has(i) ? items[i] : 0;
        }

        void store(int i, int v) {
            if (!has(i)) {
                return;
            }
            switch (form) {
                case 0: items[i] = (byte) v; break;
                case 1: items[i] = (short) v; break;
                default: items[i] = v;
            }
        }
    }
}
