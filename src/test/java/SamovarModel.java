import java.math.BigInteger;
import java.util.ArrayList;
import java.util.Arrays;
import java.util.List;

/** The document once more, written another way: nothing is kept, every question passes its evenings anew. */
final class SamovarModel {
    /** What an evening depends on; each entry is {minute, kind, number}. */
    static final class Setting {
        List<int[]> fuel = new ArrayList<>();
        List<int[]> guests = new ArrayList<>();
        List<int[]> events = new ArrayList<>();
        int water;
        int brew;

        Setting copy() {
            Setting c = new Setting();
            fuel.forEach(e -> c.fuel.add(e.clone()));
            guests.forEach(e -> c.guests.add(e.clone()));
            events.forEach(e -> c.events.add(e.clone()));
            c.water = water;
            c.brew = brew;
            return c;
        }

        Setting without(List<Integer> numbers) {
            Setting c = copy();
            c.events.clear();
            for (int i = 0; i < events.size(); i++) {
                if (!numbers.contains(i)) {
                    c.events.add(events.get(i));
                }
            }
            return c;
        }
    }

    /** What came of it: at[minute][what], is[minute][guest][what], line[minute]. */
    static final class Result {
        int[][] at = new int[24][6];
        int[][][] is = new int[24][8][2];
        int[] line = new int[24];
        int steamed;

        int glasses() {
            return Arrays.stream(is[23]).mapToInt(g -> g[1]).sum();
        }

        int inState(int state) {
            return (int) Arrays.stream(is[23]).filter(g -> g[0] == state).count();
        }

        int boiledMinutes() {
            return (int) Arrays.stream(at).filter(a -> a[4] == 1).count();
        }
    }

    static Result pass(Setting s) {
        Result r = new Result();
        int heat = 0;
        int water = s.water;
        int brew = s.brew;
        List<Integer> line = new ArrayList<>();
        int[] waits = new int[8];
        int[] drinksLeft = new int[8];
        int[] state = new int[8];
        int[] had = new int[8];
        for (int m = 0; m < 24; m++) {
            boolean boot = false;
            for (int[] e : s.events) {
                if (e[0] != m) {
                    continue;
                }
                for (int i = 0; i < e[2] && e[1] == 0 && water < 30; i++) {
                    water++;
                    heat = heat < 4 ? 0 : heat - 4;
                }
                for (int i = 0; i < e[2] && e[1] == 1 && brew < 40; i++) {
                    brew++;
                }
                boot |= e[1] == 2;
            }
            int fire = 0;
            for (int[] p : s.fuel) {
                int age = m - p[0];
                if (age >= 0 && age < (p[1] == 0 ? 3 : p[1] == 1 ? 5 : 9)) {
                    fire += p[2] * (p[1] == 1 ? 4 : 3);
                }
            }
            fire = boot ? fire + fire : fire;
            heat = heat + fire - 2 - water / 5;
            heat = heat > 100 ? 100 : heat < 0 ? 0 : heat;
            if (heat == 100 && water != 0) {
                water--;
                r.steamed++;
            }
            boolean boils = heat > 79 && water != 0;
            for (int g = 0; g < s.guests.size(); g++) {
                if (s.guests.get(g)[0] == m) {
                    line.add(g);
                    state[g] = 1;
                }
            }
            for (int g = 0; g < s.guests.size(); g++) {
                if (state[g] == 2 && --drinksLeft[g] == 0) {
                    line.add(g);
                    state[g] = 1;
                }
            }
            int served = -1;
            for (int i = 0; boils && i < line.size() && served < 0; i++) {
                int[] guest = s.guests.get(line.get(i));
                int need = guest[1] == 1 ? 3 : 1;
                if (brew >= need) {
                    served = line.remove(i);
                    brew -= need;
                    water--;
                    waits[served] = 0;
                    had[served]++;
                    state[served] = had[served] == guest[2] ? 3 : 2;
                    drinksLeft[served] = guest[1] == 1 ? 4 : 3;
                }
            }
            for (int g : new ArrayList<>(line)) {
                if (++waits[g] == 6) {
                    line.remove(Integer.valueOf(g));
                    state[g] = 4;
                }
            }
            r.at[m] = new int[] {heat, water, brew, fire, boils ? 1 : 0, served};
            r.line[m] = line.size();
            for (int g = 0; g < 8; g++) {
                r.is[m][g] = new int[] {state[g], had[g]};
            }
        }
        return r;
    }

    private final StringBuilder[] texts = {new StringBuilder(), new StringBuilder()};
    private final List<int[]> events = new ArrayList<>();
    private final List<int[]> seen = new ArrayList<>();
    private final Object[] sheets = new Object[4];
    private int water = 16;
    private int brew = 16;
    private int finding;

    private static boolean in(int v, int low, int high) {
        return low <= v && v <= high;
    }

    private int found(int number) {
        finding = number;
        return -10 - number;
    }

    private Setting setting() {
        Setting s = new Setting();
        s.fuel = entries(0);
        s.guests = entries(1);
        for (int[] e : events) {
            s.events.add(e.clone());
        }
        s.water = water;
        s.brew = brew;
        return s;
    }

    private List<int[]> entries(int text) {
        List<int[]> list = new ArrayList<>();
        if (fault(text) == -1 && texts[text].length() > 0) {
            for (String part : texts[text].toString().split(";")) {
                int kind = (text == 0 ? "kbc" : "wd").indexOf(part.charAt(1));
                list.add(new int[] {part.charAt(0) - 'a', kind, part.charAt(2) - '0'});
            }
        }
        return list;
    }

    long type(int text, int b) {
        if (!in(text, 0, 1) || !in(b, 0, 255)) return -2;
        if (texts[text].length() == 31) return -4;
        return texts[text].append((char) b).length();
    }

    long wipe(int text) {
        if (!in(text, 0, 1)) return -2;
        int had = texts[text].length();
        texts[text].setLength(0);
        return had;
    }

    long undo(int text) {
        if (!in(text, 0, 1)) return -2;
        if (texts[text].length() == 0) return -3;
        texts[text].setLength(texts[text].length() - 1);
        return texts[text].length();
    }

    /** The longest start of the text that some well-made text has too. */
    long fault(int text) {
        if (!in(text, 0, 1)) return -2;
        String t = texts[text].toString();
        String entry = text == 0 ? "[a-x][kbc][1-3]" : "[a-x][wd][1-4]";
        if (t.isEmpty() || t.matches(entry + "(;" + entry + "){0,7}")) return -1;
        String ending = text == 0 ? "ak1" : "aw1";
        for (int n = t.length(); n >= 0; n--) {
            for (int k = 0; k <= 3; k++) {
                String whole = t.substring(0, n) + ending.substring(3 - k);
                if (whole.matches(entry + "(;" + entry + "){0,7}")) return n;
            }
        }
        return 0;
    }

    private long part(List<int[]> list, int i, int what) {
        return in(i, 0, list.size() - 1) && in(what, 0, 2) ? list.get(i)[what] : -2;
    }

    long piece(int piece, int what) {
        return part(entries(0), piece, what);
    }

    long guest(int guest, int what) {
        return part(entries(1), guest, what);
    }

    long set(int what, int v) {
        if (!in(what, 0, 1) || !in(v, 0, what == 0 ? 30 : 40)) return -2;
        int was = what == 0 ? water : brew;
        if (what == 0) water = v; else brew = v;
        return was;
    }

    long event(int kind, int minute, int number) {
        if (!in(kind, 0, 2) || !in(minute, 0, 23) || !in(number, 0, 9)) return -2;
        if (events.size() == 8) return -4;
        events.add(new int[] {minute, kind, number});
        return events.size();
    }

    long back() {
        if (events.isEmpty()) return -3;
        events.remove(events.size() - 1);
        return events.size();
    }

    private static int length(Object sheet) {
        return java.lang.reflect.Array.getLength(sheet);
    }

    private static int form(Object sheet) {
        return sheet instanceof byte[] ? 0 : sheet instanceof short[] ? 1 : 2;
    }

    private static int item(Object sheet, int i) {
        return java.lang.reflect.Array.getInt(sheet, i);
    }

    private static void item(Object sheet, int i, int v) {
        if (sheet instanceof byte[] b) b[i] = (byte) v;
        if (sheet instanceof short[] s) s[i] = (short) v;
        if (sheet instanceof int[] n) n[i] = v;
    }

    long read(int s) {
        if (!in(s, 0, 3)) return -2;
        if (sheets[s] == null) return found(1);
        int read = 0;
        for (int i = 0; i + 3 <= length(sheets[s]); i += 3) {
            if (event(item(sheets[s], i), item(sheets[s], i + 1), item(sheets[s], i + 2)) < 0) break;
            read++;
        }
        return read;
    }

    long at(int minute, int what) {
        return in(minute, 0, 23) && in(what, 0, 5) ? pass(setting()).at[minute][what] : -2;
    }

    long is(int minute, int guest, int what) {
        if (!in(minute, 0, 23) || !in(guest, 0, entries(1).size() - 1) || !in(what, 0, 1)) return -2;
        return pass(setting()).is[minute][guest][what];
    }

    long line(int minute) {
        return in(minute, 0, 23) ? pass(setting()).line[minute] : -2;
    }

    long sum(int what) {
        Result r = pass(setting());
        int[] sums = {r.glasses(), r.inState(3), r.inState(4), r.steamed, r.boiledMinutes()};
        return in(what, 0, 4) ? sums[what] : -2;
    }

    long first() {
        Result r = pass(setting());
        for (int m = 0; m < 24; m++) {
            if (r.at[m][4] == 1) return m;
        }
        return -1;
    }

    long hottest(int what) {
        if (!in(what, 0, 1)) return -2;
        Result r = pass(setting());
        int most = Arrays.stream(r.at).mapToInt(a -> a[0]).max().getAsInt();
        for (int m = 0; m < 24 && what == 0; m++) {
            if (r.at[m][0] == most) return m;
        }
        return most;
    }

    long waited(int guest) {
        if (!in(guest, 0, entries(1).size() - 1)) return -2;
        return Arrays.stream(pass(setting()).is).filter(m -> m[guest][0] == 1).count();
    }

    long thirst() {
        Result r = pass(setting());
        List<int[]> guests = entries(1);
        long bits = 0;
        for (int g = 0; g < guests.size(); g++) {
            if (r.is[23][g][1] < guests.get(g)[2]) bits += 1L << g;
        }
        return bits;
    }

    private static long best(List<Setting> settings, int what) {
        int[] glasses = settings.stream().mapToInt(s -> pass(s).glasses()).toArray();
        int most = Arrays.stream(glasses).max().getAsInt();
        for (int i = 0; i < glasses.length && what == 0; i++) {
            if (glasses[i] == most) return i;
        }
        return most;
    }

    private List<Setting> kinds(int piece) {
        List<Setting> list = new ArrayList<>();
        for (int kind = 0; kind < 3; kind++) {
            Setting s = setting();
            s.fuel.get(piece)[1] = kind;
            list.add(s);
        }
        return list;
    }

    private List<Setting> fills() {
        List<Setting> list = new ArrayList<>();
        for (int w = 0; w <= 30; w++) {
            Setting s = setting();
            s.water = w;
            list.add(s);
        }
        return list;
    }

    long better(int piece, int what) {
        if (!in(piece, 0, entries(0).size() - 1) || !in(what, 0, 1)) return -2;
        return best(kinds(piece), what);
    }

    long fill(int what) {
        return in(what, 0, 1) ? best(fills(), what) : -2;
    }

    long come(int guest, int what) {
        if (!in(guest, 0, entries(1).size() - 1) || !in(what, 0, 1)) return -2;
        List<Setting> list = new ArrayList<>();
        for (int m = 0; m < 24; m++) {
            Setting s = setting();
            s.guests.get(guest)[0] = m;
            list.add(s);
        }
        return best(list, what);
    }

    long spare(int i) {
        if (!in(i, -1, 1)) return -2;
        List<List<Integer>> rows = new ArrayList<>();
        rows.add(List.of());
        for (int a = 0; a < events.size(); a++) rows.add(List.of(a));
        for (int a = 0; a < events.size(); a++) {
            for (int b = a + 1; b < events.size(); b++) rows.add(List.of(a, b));
        }
        for (List<Integer> row : rows) {
            if (pass(setting().without(row)).inState(4) == 0) {
                return i == -1 ? row.size() : i < row.size() ? row.get(i) : -1;
            }
        }
        return -1;
    }

    long seen(int minute, int is) {
        if (!in(minute, 0, 23) || !in(is, 0, 1)) return -2;
        if (seen.size() == 8) return -4;
        seen.add(new int[] {minute, is});
        return seen.size();
    }

    long forget() {
        int had = seen.size();
        seen.clear();
        return had;
    }

    private boolean fits(Setting s) {
        Result r = pass(s);
        return seen.stream().allMatch(x -> r.at[x[0]][4] == x[1]);
    }

    private long fitting(List<Setting> settings) {
        long bits = 0;
        for (int i = 0; i < settings.size(); i++) {
            if (fits(settings.get(i))) bits += 1L << i;
        }
        return bits;
    }

    long never() {
        List<Setting> list = new ArrayList<>();
        for (int e = 0; e < events.size(); e++) list.add(setting().without(List.of(e)));
        return fitting(list);
    }

    long waters() {
        return fitting(fills());
    }

    long kind(int piece) {
        return in(piece, 0, entries(0).size() - 1) ? fitting(kinds(piece)) : -2;
    }

    long ask() {
        List<Result> results = fills().stream().filter(this::fits).map(SamovarModel::pass).toList();
        int best = -1;
        long least = Long.MAX_VALUE;
        for (int m = 0; m < 24; m++) {
            int minute = m;
            long yes = results.stream().filter(r -> r.at[minute][4] == 1).count();
            long no = results.stream().filter(r -> r.at[minute][4] == 0).count();
            if (Math.max(yes, no) < least) {
                least = Math.max(yes, no);
                best = m;
            }
        }
        return best;
    }

    private BigInteger weight(int c, int guest, int from, List<Integer> left) {
        if (from == events.size()) {
            return pass(setting().without(left)).is[23][guest][0] == 3 ? BigInteger.ONE : BigInteger.ZERO;
        }
        BigInteger with = weight(c, guest, from + 1, left).multiply(BigInteger.valueOf(c));
        List<Integer> more = new ArrayList<>(left);
        more.add(from);
        return with.add(weight(c, guest, from + 1, more).multiply(BigInteger.valueOf(16 - c)));
    }

    long chance(int c, int guest, int what) {
        if (!in(c, 0, 16) || !in(guest, 0, entries(1).size() - 1) || !in(what, 0, 1)) return Long.MIN_VALUE + 2;
        BigInteger above = weight(c, guest, 0, List.of());
        BigInteger below = BigInteger.valueOf(16).pow(events.size());
        BigInteger gcd = above.gcd(below);
        return (what == 0 ? above : below).divide(gcd).longValueExact();
    }

    long evenings(int seed, int n, int what) {
        if (!in(n, 0, 8) || !in(what, 0, 1)) return -2;
        Setting s = setting();
        s.guests.clear();
        BigInteger state = BigInteger.valueOf(seed & 0xFFFFFFFFL);
        int[] sizes = {24, 2, 4};
        for (int g = 0; g < n; g++) {
            int[] lots = new int[3];
            for (int k = 0; k < 3; k++) {
                state = state.multiply(BigInteger.valueOf(1103515245)).add(BigInteger.valueOf(12345));
                state = state.mod(BigInteger.ONE.shiftLeft(32));
                lots[k] = state.shiftRight(16).intValue() % sizes[k];
            }
            s.guests.add(new int[] {lots[0], lots[1], lots[2] + 1});
        }
        Result r = pass(s);
        return what == 0 ? r.glasses() : r.inState(4);
    }

    long sheet(int s, int form, int n) {
        if (!in(s, 0, 3) || !in(form, 0, 2) || n > 60) return -2;
        if (n < 0) return found(5);
        sheets[s] = form == 0 ? new byte[n] : form == 1 ? new short[n] : new int[n];
        return n;
    }

    long lose(int s) {
        if (!in(s, 0, 3)) return -2;
        if (sheets[s] == null) return found(1);
        int n = length(sheets[s]);
        sheets[s] = null;
        return n;
    }

    private int check(int s, int form, int i) {
        if (sheets[s] == null) return 1;
        if (form(sheets[s]) != form) return 3;
        return in(i, 0, length(sheets[s]) - 1) ? 0 : 2;
    }

    long put(int s, int form, int i, int v) {
        if (!in(s, 0, 3) || !in(form, 0, 2)) return -2;
        int finding = check(s, form, i);
        if (finding != 0) return found(finding);
        item(sheets[s], i, v);
        return 1;
    }

    long get(int s, int form, int i) {
        if (!in(s, 0, 3) || !in(form, 0, 2)) return Integer.MIN_VALUE;
        int finding = check(s, form, i);
        if (finding != 0) {
            found(finding);
            return Integer.MIN_VALUE;
        }
        return item(sheets[s], i);
    }

    long copy(int s, int i, int t, int j, int n) {
        if (!in(s, 0, 3) || !in(t, 0, 3)) return -2;
        if (sheets[s] == null || sheets[t] == null) return found(1);
        if (form(sheets[s]) != form(sheets[t])) return found(4);
        if (i < 0 || j < 0 || n < 0 || (long) i + n > length(sheets[s]) || (long) j + n > length(sheets[t])) return found(2);
        int[] kept = new int[n];
        for (int k = 0; k < n; k++) kept[k] = item(sheets[s], i + k);
        for (int k = 0; k < n; k++) item(sheets[t], j + k, kept[k]);
        return 1;
    }

    long write(int what, int s) {
        if (!in(what, 0, 2) || !in(s, 0, 3)) return -2;
        if (sheets[s] == null) return found(1);
        Result r = pass(setting());
        int m = 0;
        while (m < 24 && m < length(sheets[s])) {
            item(sheets[s], m, r.at[m][what]);
            m++;
        }
        return m;
    }

    long count(int what) {
        int[] counts = {entries(0).size(), entries(1).size(), texts[0].length() + texts[1].length(), events.size(),
            pass(setting()).glasses(), water, brew, seen.size(), finding};
        return in(what, 0, 8) ? counts[what] : -2;
    }

    long digest() {
        List<Long> all = new ArrayList<>();
        for (int i = 0; i <= 7; i++) all.add(count(i));
        for (int i = 0; i <= 1; i++) all.add(fault(i));
        for (int m = 0; m < 24; m++) {
            for (int i = 0; i <= 5; i++) all.add(at(m, i));
            all.add(line(m));
        }
        for (int p = 0; p < entries(0).size(); p++) {
            for (int i = 0; i <= 2; i++) all.add(piece(p, i));
            for (int i = 0; i <= 1; i++) all.add(better(p, i));
            all.add(kind(p));
        }
        for (int g = 0; g < entries(1).size(); g++) {
            for (int i = 0; i <= 2; i++) all.add(guest(g, i));
            for (int m : new int[] {4, 11, 23}) {
                for (int i = 0; i <= 1; i++) all.add(is(m, g, i));
            }
            all.add(waited(g));
            for (int i = 0; i <= 1; i++) all.add(come(g, i));
            for (int i = 0; i <= 1; i++) all.add(chance(5, g, i));
        }
        for (int i = 0; i <= 4; i++) all.add(sum(i));
        all.addAll(List.of(first(), hottest(0), hottest(1), thirst(), fill(0), fill(1), spare(-1), spare(0)));
        all.addAll(List.of(never(), waters(), ask(), evenings(7, 6, 0), evenings(7, 6, 1)));
        return all.stream().reduce(17L, (h, v) -> 31 * h + v);
    }
}
