/** Promises 32 to 39: sheets, counts, the digest. */
public final class SheetsTest {
    private static final Checks checks = new Checks();
    private static final int NULL = -11, INDEX = -12, CAST = -13, STORE = -14, SIZE = -15;
    private static final int LEAST = Integer.MIN_VALUE;

    public static void main(String[] args) {
        sheet();
        lose();
        put();
        putCuts();
        get();
        copy();
        copyRefused();
        write();
        count();
        digest();
        checks.end();
    }

    private static void due(int promise, String call, long got, long want) {
        checks.due(promise, call, got, want);
    }

    private static void sheet() {
        Samovar s = new Samovar();
        due(32, "sheet(-1, 0, 1)", s.sheet(-1, 0, 1), -2);
        due(32, "sheet(4, 0, 1)", s.sheet(4, 0, 1), -2);
        due(32, "sheet(0, -1, 1)", s.sheet(0, -1, 1), -2);
        due(32, "sheet(0, 3, 1)", s.sheet(0, 3, 1), -2);
        due(32, "sheet(0, 0, 61)", s.sheet(0, 0, 61), -2);
        due(32, "sheet(4, 0, -1)", s.sheet(4, 0, -1), -2);
        due(32, "count(8)", s.count(8), 0);
        due(32, "sheet(0, 0, -1)", s.sheet(0, 0, -1), SIZE);
        due(32, "count(8)", s.count(8), 5);
        due(32, "lose(0)", s.lose(0), NULL);
        due(32, "sheet(0, 2, 60)", s.sheet(0, 2, 60), 60);
        due(32, "get(0, 2, 59)", s.get(0, 2, 59), 0);
        due(32, "put(0, 2, 59, 7)", s.put(0, 2, 59, 7), 1);
        due(32, "sheet(0, 0, -1)", s.sheet(0, 0, -1), SIZE);
        due(32, "get(0, 2, 59) as before", s.get(0, 2, 59), 7);
        due(32, "sheet(0, 2, 60) anew", s.sheet(0, 2, 60), 60);
        due(32, "get(0, 2, 59) of a new row", s.get(0, 2, 59), 0);
        due(32, "sheet(3, 1, 0)", s.sheet(3, 1, 0), 0);
        due(32, "get(3, 1, 0)", s.get(3, 1, 0), LEAST);
        due(32, "count(8)", s.count(8), 2);
    }

    private static void lose() {
        Samovar s = new Samovar();
        due(33, "lose(-1)", s.lose(-1), -2);
        due(33, "lose(4)", s.lose(4), -2);
        due(33, "count(8)", s.count(8), 0);
        due(33, "lose(2)", s.lose(2), NULL);
        due(33, "count(8)", s.count(8), 1);
        s.sheet(2, 1, 9);
        due(33, "lose(2)", s.lose(2), 9);
        due(33, "lose(2)", s.lose(2), NULL);
        due(33, "put(2, 1, 0, 0)", s.put(2, 1, 0, 0), NULL);
        s.sheet(1, 1, 0);
        due(33, "lose(1)", s.lose(1), 0);
    }

    private static void put() {
        Samovar s = new Samovar();
        due(34, "put(-1, 0, 0, 0)", s.put(-1, 0, 0, 0), -2);
        due(34, "put(4, 0, 0, 0)", s.put(4, 0, 0, 0), -2);
        due(34, "put(0, -1, 0, 0)", s.put(0, -1, 0, 0), -2);
        due(34, "put(0, 3, 0, 0)", s.put(0, 3, 0, 0), -2);
        due(34, "count(8)", s.count(8), 0);
        due(34, "put(0, 0, 0, 0)", s.put(0, 0, 0, 0), NULL);
        s.sheet(0, 1, 3);
        due(34, "put(0, 0, 9, 0)", s.put(0, 0, 9, 0), CAST);
        due(34, "count(8)", s.count(8), 3);
        due(34, "put(0, 1, 3, 0)", s.put(0, 1, 3, 0), INDEX);
        due(34, "count(8)", s.count(8), 2);
        due(34, "put(0, 1, -1, 0)", s.put(0, 1, -1, 0), INDEX);
        due(34, "put(0, 1, 2, -5)", s.put(0, 1, 2, -5), 1);
        due(34, "get(0, 1, 2)", s.get(0, 1, 2), -5);
        due(34, "get(0, 1, 1)", s.get(0, 1, 1), 0);
        due(34, "count(8)", s.count(8), 2);
    }

    private static void cut(int form, int v, int want) {
        Samovar s = new Samovar();
        s.sheet(0, form, 1);
        s.put(0, form, 0, v);
        due(34, "get of form " + form + " behind put of " + v, s.get(0, form, 0), want);
    }

    private static void putCuts() {
        cut(0, 127, 127);
        cut(0, 128, -128);
        cut(0, 255, -1);
        cut(0, 256, 0);
        cut(0, -129, 127);
        cut(1, 32767, 32767);
        cut(1, 32768, -32768);
        cut(1, 65536 + 9, 9);
        cut(2, Integer.MIN_VALUE, Integer.MIN_VALUE);
        cut(2, Integer.MAX_VALUE, Integer.MAX_VALUE);
    }

    private static void get() {
        Samovar s = new Samovar();
        due(35, "get(-1, 0, 0)", s.get(-1, 0, 0), LEAST);
        due(35, "get(4, 0, 0)", s.get(4, 0, 0), LEAST);
        due(35, "get(0, -1, 0)", s.get(0, -1, 0), LEAST);
        due(35, "get(0, 3, 0)", s.get(0, 3, 0), LEAST);
        due(35, "count(8)", s.count(8), 0);
        due(35, "get(0, 0, 0)", s.get(0, 0, 0), LEAST);
        due(35, "count(8)", s.count(8), 1);
        s.sheet(0, 2, 2);
        due(35, "get(0, 1, 5)", s.get(0, 1, 5), LEAST);
        due(35, "count(8)", s.count(8), 3);
        due(35, "get(0, 2, 2)", s.get(0, 2, 2), LEAST);
        due(35, "count(8)", s.count(8), 2);
        due(35, "get(0, 0, 0)", s.get(0, 0, 0), LEAST);
        due(35, "get(0, 2, -1)", s.get(0, 2, -1), LEAST);
        due(35, "count(8)", s.count(8), 2);
        due(35, "get(0, 2, 1)", s.get(0, 2, 1), 0);
        due(35, "count(8)", s.count(8), 2);
    }

    private static Samovar counted(int form, int n) {
        Samovar s = new Samovar();
        s.sheet(0, form, n);
        for (int i = 0; i < n; i++) {
            s.put(0, form, i, i + 1);
        }
        return s;
    }

    private static void items(Samovar s, int sheet, int form, int... wants) {
        for (int i = 0; i < wants.length; i++) {
            due(36, "get(" + sheet + ", " + form + ", " + i + ")", s.get(sheet, form, i), wants[i]);
        }
    }

    private static void copy() {
        Samovar s = counted(1, 5);
        s.sheet(1, 1, 3);
        due(36, "copy(0, 2, 1, 0, 3)", s.copy(0, 2, 1, 0, 3), 1);
        items(s, 1, 1, 3, 4, 5);
        due(36, "copy(0, 0, 0, 1, 4)", s.copy(0, 0, 0, 1, 4), 1);
        items(s, 0, 1, 1, 1, 2, 3, 4);
        due(36, "copy(0, 2, 0, 0, 3)", s.copy(0, 2, 0, 0, 3), 1);
        items(s, 0, 1, 2, 3, 4, 3, 4);
        due(36, "copy(0, 5, 1, 3, 0)", s.copy(0, 5, 1, 3, 0), 1);
        due(36, "count(8)", s.count(8), 0);
    }

    private static void copyRefused() {
        Samovar s = counted(0, 5);
        due(36, "copy(-1, 0, 0, 0, 1)", s.copy(-1, 0, 0, 0, 1), -2);
        due(36, "copy(0, 0, 4, 0, 1)", s.copy(0, 0, 4, 0, 1), -2);
        due(36, "copy(1, 0, 4, 0, 1)", s.copy(1, 0, 4, 0, 1), -2);
        due(36, "count(8)", s.count(8), 0);
        due(36, "copy(1, 0, 0, 0, 1)", s.copy(1, 0, 0, 0, 1), NULL);
        due(36, "copy(0, 0, 1, 0, 1)", s.copy(0, 0, 1, 0, 1), NULL);
        s.sheet(1, 1, 5);
        due(36, "copy(0, 0, 1, 0, 9)", s.copy(0, 0, 1, 0, 9), STORE);
        due(36, "count(8)", s.count(8), 4);
        due(36, "copy(0, 0, 1, 0, 0)", s.copy(0, 0, 1, 0, 0), STORE);
        s.sheet(1, 0, 3);
        int[][] wrongs = {{-1, 0, 1}, {0, -1, 1}, {0, 0, -1}, {3, 0, 3}, {0, 1, 3}, {6, 0, 0}, {0, 4, 0},
            {1, 0, Integer.MAX_VALUE}, {Integer.MAX_VALUE, 0, 1}, {0, Integer.MAX_VALUE, 1}, {0, 0, 4}};
        for (int[] w : wrongs) {
            String call = "copy(0, " + w[0] + ", 1, " + w[1] + ", " + w[2] + ")";
            due(36, call, s.copy(0, w[0], 1, w[1], w[2]), INDEX);
        }
        due(36, "count(8)", s.count(8), 2);
        items(s, 1, 0, 0, 0, 0);
    }

    private static void write() {
        Samovar s = Checks.told("ab3;ab3", "aw1;bd2;dw2", 4, 16);
        due(37, "write(-1, 0)", s.write(-1, 0), -2);
        due(37, "write(3, 0)", s.write(3, 0), -2);
        due(37, "write(0, -1)", s.write(0, -1), -2);
        due(37, "write(0, 4)", s.write(0, 4), -2);
        due(37, "count(8)", s.count(8), 0);
        due(37, "write(0, 0)", s.write(0, 0), NULL);
        due(37, "count(8)", s.count(8), 1);
        for (int form = 0; form <= 2; form++) {
            for (int what = 0; what <= 2; what++) {
                s.sheet(form, form, 60);
                s.put(form, form, 24, 77);
                due(37, "write(" + what + ", " + form + ")", s.write(what, form), 24);
                for (int minute = 0; minute < 24; minute++) {
                    due(37, "get(" + form + ", .., " + minute + ")", s.get(form, form, minute), s.at(minute, what));
                }
                due(37, "get(" + form + ", .., 24)", s.get(form, form, 24), 77);
            }
        }
        s.sheet(3, 0, 5);
        due(37, "write(0, 3) of five items", s.write(0, 3), 5);
        due(37, "get(3, 0, 4)", s.get(3, 0, 4), 100);
        s.sheet(3, 0, 0);
        due(37, "write(0, 3) of no items", s.write(0, 3), 0);
    }

    private static void count() {
        Samovar s = Checks.told("ab3;ab3", "aw1;bd2;dw2", 4, 17);
        s.event(1, 5, 5);
        s.seen(4, 1);
        s.seen(4, 1);
        s.get(0, 0, 0);
        int[] wants = {2, 3, 18, 1, 3, 4, 17, 2, 1};
        for (int what = 0; what < wants.length; what++) {
            due(38, "count(" + what + ")", s.count(what), wants[what]);
        }
        due(38, "count(-1)", s.count(-1), -2);
        due(38, "count(9)", s.count(9), -2);
        s.type(0, ';');
        due(38, "count(0) with a fault", s.count(0), 0);
        due(38, "count(2) with a fault", s.count(2), 19);
    }

    private static long told(Samovar s) {
        long[] h = {17};
        for (int what = 0; what <= 7; what++) {
            add(h, s.count(what));
        }
        add(h, s.fault(0), s.fault(1));
        for (int m = 0; m < 24; m++) {
            add(h, s.at(m, 0), s.at(m, 1), s.at(m, 2), s.at(m, 3), s.at(m, 4), s.at(m, 5), s.line(m));
        }
        for (int p = 0; p < s.count(0); p++) {
            add(h, s.piece(p, 0), s.piece(p, 1), s.piece(p, 2), s.better(p, 0), s.better(p, 1), s.kind(p));
        }
        for (int g = 0; g < s.count(1); g++) {
            add(h, s.guest(g, 0), s.guest(g, 1), s.guest(g, 2));
            add(h, s.is(4, g, 0), s.is(4, g, 1), s.is(11, g, 0), s.is(11, g, 1), s.is(23, g, 0), s.is(23, g, 1));
            add(h, s.waited(g), s.come(g, 0), s.come(g, 1), s.chance(5, g, 0), s.chance(5, g, 1));
        }
        add(h, s.sum(0), s.sum(1), s.sum(2), s.sum(3), s.sum(4), s.first(), s.hottest(0), s.hottest(1));
        add(h, s.thirst(), s.fill(0), s.fill(1), s.spare(-1), s.spare(0), s.never(), s.waters(), s.ask());
        add(h, s.evenings(7, 6, 0), s.evenings(7, 6, 1));
        return h[0];
    }

    private static void add(long[] h, long... values) {
        for (long v : values) {
            h[0] = 31 * h[0] + v;
        }
    }

    private static void digest() {
        Samovar s = new Samovar();
        due(39, "digest() of a new one", s.digest(), told(s));
        s = Checks.told("ab3;ab3;fc3", "aw1;bd2;dw2", 4, 17);
        due(39, "digest()", s.digest(), told(s));
        s.event(2, 2, 0);
        s.event(0, 3, 9);
        s.event(0, 3, 9);
        s.seen(3, 0);
        due(39, "digest()", s.digest(), told(s));
        Checks.retell(s, 0, "ab3;ab3;bb2;cc3;gc3;jb2;lc3");
        Checks.retell(s, 1, "ew3;cd2;ed3;fw4;gw1;id1;kw2;ld4");
        s.set(0, 25);
        s.set(1, 30);
        due(39, "digest()", s.digest(), told(s));
        long before = s.digest();
        s.get(0, 0, 0);
        s.sheet(0, 0, 5);
        due(39, "digest() behind a finding", s.digest(), before);
        s.type(1, 0);
        due(39, "digest() with a fault of text 1", s.digest(), told(s));
        s.undo(1);
        s.type(0, 0);
        due(39, "digest() with a fault of text 0", s.digest(), told(s));
    }
}
