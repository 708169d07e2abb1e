import java.math.BigInteger;
import java.util.function.ToLongFunction;

/** Terms, of SHEETS, FINDINGS and refusals, and promises 32 to 39: each sentence that names a boundary case. */
public final class EdgesOfSheetsTest {
    private static final Checks checks = new Checks();
    private static final int NONE = -1, BAD = -2, NOT = -3, FULL = -4;
    private static final int NULL = -11, INDEX = -12, CAST = -13, STORE = -14, SIZE = -15;
    private static final int LEAST = Integer.MIN_VALUE;
    private static final int[] NO_SHEETS = {Integer.MIN_VALUE, -1, 4, Integer.MAX_VALUE};
    private static final int[] NO_FORMS = {Integer.MIN_VALUE, -1, 3, Integer.MAX_VALUE};
    private static final int[] FAR = {Integer.MIN_VALUE, -1, Integer.MAX_VALUE};

    public static void main(String[] args) {
        fourSheetsLost();
        rowsOfAForm();
        zeroAtFirst();
        findingNull();
        findingIndex();
        findingCast();
        findingStore();
        findingSize();
        refusalsInOrder();
        refusalsChangeNothing();
        sheetRefused();
        sheetIsNew();
        loseHowMany();
        lowestBits();
        putRefused();
        getTheLeast();
        copyAsTheyWere();
        copyEdges();
        copyRefused();
        writeAsManyAsThereAre();
        writeRefused();
        counts();
        latestFinding();
        countRefused();
        digestWraps();
        checks.end();
    }

    private static void sentence(String words) {
        checks.sentence(words);
    }

    private static void due(String call, long got, long want) {
        checks.due(call, got, want);
    }

    private static void items(Samovar s, int sheet, int form, int... wants) {
        for (int i = 0; i < wants.length; i++) {
            due("get(" + sheet + ", " + form + ", " + i + ")", s.get(sheet, form, i), wants[i]);
        }
    }

    /** Sheet 0 has the bytes 1 to 5, sheet 1 two shorts, sheet 2 one int; sheet 3 is lost. */
    private static Samovar withSheets() {
        Samovar s = new Samovar();
        s.sheet(0, 0, 5);
        for (int i = 0; i < 5; i++) {
            s.put(0, 0, i, i + 1);
        }
        s.sheet(1, 1, 2);
        s.put(1, 1, 1, -7);
        s.sheet(2, 2, 1);
        s.put(2, 2, 0, 1 << 30);
        return s;
    }

    // ---- Terms

    private static void fourSheetsLost() {
        sentence("SHEETS 0 .. 3 are LOST (at first)");
        Samovar s = new Samovar();
        for (int sheet = 0; sheet <= 3; sheet++) {
            due("lose(" + sheet + ")", s.lose(sheet), NULL);
            due("put(" + sheet + ", 0, 0, 0)", s.put(sheet, 0, 0, 0), NULL);
        }
        for (int sheet = 0; sheet <= 3; sheet++) {
            due("sheet(" + sheet + ", 0, " + (sheet + 1) + ")", s.sheet(sheet, 0, sheet + 1), sheet + 1);
        }
        for (int sheet = 0; sheet <= 3; sheet++) {
            due("lose(" + sheet + "), each its own", s.lose(sheet), sheet + 1);
        }
        for (int sheet : NO_SHEETS) {
            due("lose(" + sheet + ")", s.lose(sheet), BAD);
        }
    }

    private static void rowsOfAForm() {
        sentence("or a row of a FORM: 0 bytes, 1 shorts, 2 ints, of 0 to 60 items");
        for (int form = 0; form <= 2; form++) {
            Samovar s = new Samovar();
            due("sheet(0, " + form + ", 0)", s.sheet(0, form, 0), 0);
            due("put of item 0 of none", s.put(0, form, 0, 1), INDEX);
            due("sheet(0, " + form + ", 60)", s.sheet(0, form, 60), 60);
            due("put of item 59", s.put(0, form, 59, 1), 1);
            due("get of item 59", s.get(0, form, 59), 1);
            due("put of item 60", s.put(0, form, 60, 1), INDEX);
            due("sheet(0, " + form + ", 61)", s.sheet(0, form, 61), BAD);
            due("lose(0)", s.lose(0), 60);
        }
    }

    private static void zeroAtFirst() {
        sentence("of 0 to 60 items (0 at first)");
        for (int form = 0; form <= 2; form++) {
            Samovar s = new Samovar();
            s.sheet(form, form, 60);
            for (int i = 0; i < 60; i++) {
                due("get(" + form + ", " + form + ", " + i + ")", s.get(form, form, i), 0);
            }
            due("count(8)", s.count(8), 0);
        }
    }

    private static void findingNull() {
        sentence("FINDINGS (answers -10 less the number): 1 NULL: the SHEET is LOST");
        Samovar s = new Samovar();
        due("read(0)", s.read(0), -11);
        due("count(8)", s.count(8), 1);
        due("lose(0)", s.lose(0), -11);
        due("put(0, 0, 0, 0)", s.put(0, 0, 0, 0), -11);
        due("write(0, 0)", s.write(0, 0), -11);
        s.sheet(1, 0, 1);
        due("copy(0, 0, 1, 0, 1)", s.copy(0, 0, 1, 0, 1), -11);
        due("copy(1, 0, 0, 0, 1)", s.copy(1, 0, 0, 0, 1), -11);
        due("copy(0, 0, 0, 0, 0)", s.copy(0, 0, 0, 0, 0), -11);
        due("get(0, 0, 0)", s.get(0, 0, 0), LEAST);
        due("count(8)", s.count(8), 1);
    }

    private static void findingIndex() {
        sentence("2 INDEX: there is no such item");
        Samovar s = withSheets();
        due("put(0, 0, 5, 9)", s.put(0, 0, 5, 9), -12);
        due("count(8)", s.count(8), 2);
        due("put(0, 0, 60, 9)", s.put(0, 0, 60, 9), -12);
        for (int far : FAR) {
            due("put(0, 0, " + far + ", 9)", s.put(0, 0, far, 9), -12);
            due("get(0, 0, " + far + ")", s.get(0, 0, far), LEAST);
        }
        items(s, 0, 0, 1, 2, 3, 4, 5);
        due("count(8)", s.count(8), 2);
    }

    private static void findingCast() {
        sentence("3 CAST: it has another FORM");
        for (int form = 0; form <= 2; form++) {
            for (int as = 0; as <= 2; as++) {
                Samovar s = withSheets();
                due("put(" + form + ", " + as + ", 0, 9)", s.put(form, as, 0, 9), as == form ? 1 : -13);
                due("count(8)", s.count(8), as == form ? 0 : 3);
                due("get(" + form + ", " + as + ", 0)", s.get(form, as, 0), as == form ? 9 : LEAST);
                due("count(8)", s.count(8), as == form ? 0 : 3);
            }
        }
    }

    private static void findingStore() {
        sentence("4 STORE: unlike FORMS");
        for (int s = 0; s <= 2; s++) {
            for (int t = 0; t <= 2; t++) {
                Samovar x = withSheets();
                due("copy(" + s + ", 0, " + t + ", 0, 1)", x.copy(s, 0, t, 0, 1), s == t ? 1 : -14);
                due("copy(" + s + ", 0, " + t + ", 0, 0)", x.copy(s, 0, t, 0, 0), s == t ? 1 : -14);
                due("count(8)", x.count(8), s == t ? 0 : 4);
                items(x, t, t, t == 0 ? 1 : t == 1 ? 0 : 1 << 30);
            }
        }
    }

    private static void findingSize() {
        sentence("5 SIZE: below 0");
        Samovar s = withSheets();
        due("sheet(0, 0, -1)", s.sheet(0, 0, -1), -15);
        due("sheet(3, 2, the least)", s.sheet(3, 2, Integer.MIN_VALUE), -15);
        due("count(8)", s.count(8), 5);
        due("sheet(3, 2, 0)", s.sheet(3, 2, 0), 0);
        items(s, 0, 0, 1, 2, 3, 4, 5);
    }

    private static void refusalsInOrder() {
        sentence("Refusals, the first that fits, in the order told at each act");
        Samovar s = withSheets();
        due("read(4): BAD", s.read(4), BAD);
        due("sheet(4, 0, -1): BAD; SIZE", s.sheet(4, 0, -1), BAD);
        due("sheet(0, 3, -1): BAD; SIZE", s.sheet(0, 3, -1), BAD);
        due("put(3, 3, -1, 0): BAD; NULL", s.put(3, 3, -1, 0), BAD);
        due("put(4, 0, -1, 0): BAD; INDEX", s.put(4, 0, -1, 0), BAD);
        due("copy(3, 0, 4, 0, 1): BAD; NULL", s.copy(3, 0, 4, 0, 1), BAD);
        due("copy(4, 0, 3, 0, 1): BAD; NULL", s.copy(4, 0, 3, 0, 1), BAD);
        due("copy(0, -1, 4, 0, 1): BAD; INDEX", s.copy(0, -1, 4, 0, 1), BAD);
        due("write(3, 3): BAD; NULL", s.write(3, 3), BAD);
        due("count(8) behind BAD", s.count(8), 0);
        due("put(3, 0, -1, 0): NULL; INDEX", s.put(3, 0, -1, 0), NULL);
        due("put(0, 1, 9, 0): CAST; INDEX", s.put(0, 1, 9, 0), CAST);
        due("copy(3, -1, 0, 0, 1): NULL; INDEX", s.copy(3, -1, 0, 0, 1), NULL);
        due("copy(0, 0, 3, 0, 9): NULL; INDEX", s.copy(0, 0, 3, 0, 9), NULL);
        due("copy(0, -1, 1, 0, 1): STORE; INDEX", s.copy(0, -1, 1, 0, 1), STORE);
        due("copy(0, 0, 1, 0, -1): STORE; INDEX", s.copy(0, 0, 1, 0, -1), STORE);
        due("get(3, 0, -1): NULL; INDEX", s.get(3, 0, -1), LEAST);
        due("count(8)", s.count(8), 1);
        due("get(0, 1, 9): CAST; INDEX", s.get(0, 1, 9), LEAST);
        due("count(8)", s.count(8), 3);
        due("get(3, 3, -1): BAD; NULL", s.get(3, 3, -1), LEAST);
        due("count(8), BAD is no finding", s.count(8), 3);
    }

    /** An evening with all that can be told, and the sheets of above. */
    private static Samovar rich() {
        Samovar s = withSheets();
        Checks.tell(s, 0, "ab3;ab3;bb2;cc3;gc3;jb2;lc3;pk3");
        Checks.tell(s, 1, "cw3;cd2;ed3;fw4;gw1;id1;kw2;pd4");
        s.set(0, 18);
        s.set(1, 25);
        for (int i = 0; i < 8; i++) {
            s.event(i % 3, 2 * i + 1, i);
            s.seen(i, i < 5 ? 0 : 1);
        }
        return s;
    }

    /** All that a call may have changed, but for the latest finding. */
    private static void unchanged(String call, Samovar s) {
        Samovar like = rich();
        due("digest() behind " + call, s.digest(), like.digest());
        items(s, 0, 0, 1, 2, 3, 4, 5);
        items(s, 1, 1, 0, -7);
        items(s, 2, 2, 1 << 30);
        due("lose(0) behind " + call, s.lose(0), 5);
        due("lose(1) behind " + call, s.lose(1), 2);
        due("lose(2) behind " + call, s.lose(2), 1);
        due("lose(3) behind " + call, s.lose(3), NULL);
        due("back() behind " + call, s.back(), 7);
        due("forget() behind " + call, s.forget(), 8);
        due("undo(0) behind " + call, s.undo(0), 30);
        due("undo(1) behind " + call, s.undo(1), 30);
    }

    private static void refused(String call, ToLongFunction<Samovar> act, long want, int finding) {
        Samovar s = rich();
        due(call, act.applyAsLong(s), want);
        due("count(8) behind " + call, s.count(8), finding);
        unchanged(call, s);
    }

    private static void refusalsChangeNothing() {
        sentence("They change nothing (FINDINGS but count() 8)");
        refused("type(0, 97)", s -> s.type(0, 97), FULL, 0);
        refused("type(2, 97)", s -> s.type(2, 97), BAD, 0);
        refused("type(0, 256)", s -> s.type(0, 256), BAD, 0);
        refused("wipe(2)", s -> s.wipe(2), BAD, 0);
        refused("undo(-1)", s -> s.undo(-1), BAD, 0);
        refused("fault(2)", s -> s.fault(2), BAD, 0);
        refused("set(0, 31)", s -> s.set(0, 31), BAD, 0);
        refused("set(1, 41)", s -> s.set(1, 41), BAD, 0);
        refused("set(2, 5)", s -> s.set(2, 5), BAD, 0);
        refused("event(0, 0, 0)", s -> s.event(0, 0, 0), FULL, 0);
        refused("event(0, 0, 10)", s -> s.event(0, 0, 10), BAD, 0);
        refused("read(4)", s -> s.read(4), BAD, 0);
        refused("read(3)", s -> s.read(3), NULL, 1);
        refused("seen(0, 0)", s -> s.seen(0, 0), FULL, 0);
        refused("seen(0, 2)", s -> s.seen(0, 2), BAD, 0);
        refused("spare(2)", s -> s.spare(2), BAD, 0);
        refused("evenings(1, 9, 0)", s -> s.evenings(1, 9, 0), BAD, 0);
        refused("chance(17, 0, 0)", s -> s.chance(17, 0, 0), Long.MIN_VALUE + 2, 0);
        refused("sheet(0, 0, 61)", s -> s.sheet(0, 0, 61), BAD, 0);
        refused("sheet(0, 3, 1)", s -> s.sheet(0, 3, 1), BAD, 0);
        refused("sheet(0, 0, -1)", s -> s.sheet(0, 0, -1), SIZE, 5);
        refused("sheet(3, 0, -1)", s -> s.sheet(3, 0, -1), SIZE, 5);
        refused("lose(4)", s -> s.lose(4), BAD, 0);
        refused("lose(3)", s -> s.lose(3), NULL, 1);
        refused("put(0, 3, 0, 9)", s -> s.put(0, 3, 0, 9), BAD, 0);
        refused("put(3, 0, 0, 9)", s -> s.put(3, 0, 0, 9), NULL, 1);
        refused("put(0, 1, 0, 9)", s -> s.put(0, 1, 0, 9), CAST, 3);
        refused("put(0, 0, 5, 9)", s -> s.put(0, 0, 5, 9), INDEX, 2);
        refused("get(4, 0, 0)", s -> s.get(4, 0, 0), LEAST, 0);
        refused("get(3, 0, 0)", s -> s.get(3, 0, 0), LEAST, 1);
        refused("get(0, 1, 0)", s -> s.get(0, 1, 0), LEAST, 3);
        refused("get(0, 0, 5)", s -> s.get(0, 0, 5), LEAST, 2);
        refused("copy(0, 0, 4, 0, 1)", s -> s.copy(0, 0, 4, 0, 1), BAD, 0);
        refused("copy(0, 0, 3, 0, 1)", s -> s.copy(0, 0, 3, 0, 1), NULL, 1);
        refused("copy(0, 0, 1, 0, 1)", s -> s.copy(0, 0, 1, 0, 1), STORE, 4);
        refused("copy(0, 0, 0, 1, 5)", s -> s.copy(0, 0, 0, 1, 5), INDEX, 2);
        refused("write(3, 0)", s -> s.write(3, 0), BAD, 0);
        refused("write(0, 4)", s -> s.write(0, 4), BAD, 0);
        refused("write(0, 3)", s -> s.write(0, 3), NULL, 1);
        refused("count(9)", s -> s.count(9), BAD, 0);
        Samovar empty = new Samovar();
        long before = empty.digest();
        due("back() of none", empty.back(), NOT);
        due("undo(0) of none", empty.undo(0), NOT);
        due("digest() behind NOT", empty.digest(), before);
    }

    // ---- promises 32 to 39

    private static void sheetRefused() {
        sentence("A SHEET is a new row of a FORM with n items: n. BAD: SHEET, FORM, above 60; SIZE");
        Samovar s = withSheets();
        for (int sheet : NO_SHEETS) {
            due("sheet(" + sheet + ", 0, 1)", s.sheet(sheet, 0, 1), BAD);
        }
        for (int form : NO_FORMS) {
            due("sheet(0, " + form + ", 1)", s.sheet(0, form, 1), BAD);
        }
        due("sheet(0, 0, 61)", s.sheet(0, 0, 61), BAD);
        due("sheet(0, 0, the greatest)", s.sheet(0, 0, Integer.MAX_VALUE), BAD);
        due("count(8)", s.count(8), 0);
        due("sheet(0, 0, -1)", s.sheet(0, 0, -1), SIZE);
        due("lose(0), as it was", s.lose(0), 5);
        for (int n = 0; n <= 60; n++) {
            due("sheet(0, 1, " + n + ")", s.sheet(0, 1, n), n);
            due("put(0, 1, " + n + ", 0)", s.put(0, 1, n, 0), INDEX);
            due("put(0, 1, " + (n - 1) + ", 0)", s.put(0, 1, n - 1, 0), n == 0 ? INDEX : 1);
        }
    }

    private static void sheetIsNew() {
        sentence("A SHEET is a new row of a FORM with n items");
        Samovar s = withSheets();
        due("sheet(0, 0, 3), shorter", s.sheet(0, 0, 3), 3);
        items(s, 0, 0, 0, 0, 0);
        due("put(0, 0, 3, 1)", s.put(0, 0, 3, 1), INDEX);
        s.put(0, 0, 2, 8);
        due("sheet(0, 0, 6), longer", s.sheet(0, 0, 6), 6);
        items(s, 0, 0, 0, 0, 0, 0, 0, 0);
        due("sheet(0, 2, 6), of another form", s.sheet(0, 2, 6), 6);
        due("put(0, 0, 0, 1)", s.put(0, 0, 0, 1), CAST);
        due("put(0, 2, 0, 1)", s.put(0, 2, 0, 1), 1);
        s.lose(0);
        due("sheet(0, 2, 1) behind lose", s.sheet(0, 2, 1), 1);
        items(s, 0, 2, 0);
        items(s, 1, 1, 0, -7);
    }

    private static void loseHowMany() {
        sentence("It is LOST: how many items it had. BAD; NULL");
        Samovar s = withSheets();
        for (int sheet : NO_SHEETS) {
            due("lose(" + sheet + ")", s.lose(sheet), BAD);
        }
        due("count(8)", s.count(8), 0);
        due("lose(0)", s.lose(0), 5);
        due("lose(0) once more", s.lose(0), NULL);
        due("count(8)", s.count(8), 1);
        due("get(0, 0, 0)", s.get(0, 0, 0), LEAST);
        due("lose(1), another one", s.lose(1), 2);
        s.sheet(3, 2, 0);
        due("lose(3) of no items", s.lose(3), 0);
        s.sheet(3, 2, 60);
        due("lose(3) of 60", s.lose(3), 60);
    }

    private static void cut(int form, int v, int want) {
        Samovar s = new Samovar();
        s.sheet(3, form, 3);
        due("put(3, " + form + ", 1, " + v + ")", s.put(3, form, 1, v), 1);
        items(s, 3, form, 0, want, 0);
    }

    private static void lowestBits() {
        sentence("Item i, treated as of a FORM, becomes v (the lowest bits that it has): 1");
        int[] values = {0, 1, -1, 127, 128, 129, 255, 256, -128, -129, 32767, 32768, 65535, 65536, -32768, -32769,
            Integer.MAX_VALUE, Integer.MIN_VALUE, 0x12345678, 0x87654321};
        for (int v : values) {
            cut(0, v, Math.floorMod(v + 128, 256) - 128);
            cut(1, v, Math.floorMod(v + 32768, 65536) - 32768);
            cut(2, v, v);
        }
        cut(0, 128, -128);
        cut(0, 255, -1);
        cut(0, 256, 0);
        cut(1, 128, 128);
        cut(1, 32768, -32768);
        cut(1, 65536, 0);
        cut(2, 65536, 65536);
    }

    private static void putRefused() {
        sentence("put: BAD; NULL; CAST; INDEX");
        Samovar s = withSheets();
        for (int sheet : NO_SHEETS) {
            due("put(" + sheet + ", 0, 0, 9)", s.put(sheet, 0, 0, 9), BAD);
        }
        for (int form : NO_FORMS) {
            due("put(0, " + form + ", 0, 9)", s.put(0, form, 0, 9), BAD);
        }
        due("count(8)", s.count(8), 0);
        due("put(3, 0, 0, 9)", s.put(3, 0, 0, 9), NULL);
        due("put(0, 2, 0, 9)", s.put(0, 2, 0, 9), CAST);
        due("put(0, 0, 5, 9)", s.put(0, 0, 5, 9), INDEX);
        due("put(0, 0, -1, 9)", s.put(0, 0, -1, 9), INDEX);
        items(s, 0, 0, 1, 2, 3, 4, 5);
        due("put(0, 0, 0, 9), the first", s.put(0, 0, 0, 9), 1);
        due("put(0, 0, 4, 9), the last", s.put(0, 0, 4, 9), 1);
        items(s, 0, 0, 9, 2, 3, 4, 9);
    }

    private static void getTheLeast() {
        sentence("Item i of it. BAD: the least int; so are NULL, CAST, INDEX (count() 8 tells)");
        Samovar s = withSheets();
        for (int sheet : NO_SHEETS) {
            due("get(" + sheet + ", 0, 0)", s.get(sheet, 0, 0), LEAST);
        }
        for (int form : NO_FORMS) {
            due("get(0, " + form + ", 0)", s.get(0, form, 0), LEAST);
        }
        due("count(8) behind BAD", s.count(8), 0);
        due("get(0, 0, 5)", s.get(0, 0, 5), LEAST);
        due("count(8)", s.count(8), 2);
        due("get(3, 0, 0)", s.get(3, 0, 0), LEAST);
        due("count(8)", s.count(8), 1);
        due("get(0, 1, 0)", s.get(0, 1, 0), LEAST);
        due("count(8)", s.count(8), 3);
        due("get(0, 0, -1)", s.get(0, 0, -1), LEAST);
        due("count(8)", s.count(8), 2);
        due("get(0, 0, 0), the first", s.get(0, 0, 0), 1);
        due("get(0, 0, 4), the last", s.get(0, 0, 4), 5);
        due("count(8), no new finding", s.count(8), 2);
        // The least int may be an item too: then there is no finding.
        Samovar least = new Samovar();
        least.sheet(0, 2, 1);
        least.put(0, 2, 0, LEAST);
        due("get(0, 2, 0) of the least int", least.get(0, 2, 0), LEAST);
        due("count(8)", least.count(8), 0);
    }

    private static void copyAsTheyWere() {
        sentence("n items of SHEET s, from i on, come to SHEET t (perhaps s, as they were), from j on: 1");
        Samovar s = withSheets();
        due("copy(0, 0, 0, 1, 4), to the right", s.copy(0, 0, 0, 1, 4), 1);
        items(s, 0, 0, 1, 1, 2, 3, 4);
        s = withSheets();
        due("copy(0, 1, 0, 0, 4), to the left", s.copy(0, 1, 0, 0, 4), 1);
        items(s, 0, 0, 2, 3, 4, 5, 5);
        s = withSheets();
        due("copy(0, 0, 0, 0, 5), to itself", s.copy(0, 0, 0, 0, 5), 1);
        items(s, 0, 0, 1, 2, 3, 4, 5);
        s.sheet(3, 0, 7);
        due("copy(0, 1, 3, 2, 3)", s.copy(0, 1, 3, 2, 3), 1);
        items(s, 3, 0, 0, 0, 2, 3, 4, 0, 0);
        items(s, 0, 0, 1, 2, 3, 4, 5);
        // What is put later into one is not in the other.
        s.put(0, 0, 1, 9);
        items(s, 3, 0, 0, 0, 2, 3, 4, 0, 0);
        due("count(8)", s.count(8), 0);
    }

    private static void copyEdges() {
        sentence("copy: INDEX: below 0, not so many");
        // All pairs of places and all numbers around those of a row of 5 and a row of 3.
        for (int i = -1; i <= 6; i++) {
            for (int j = -1; j <= 4; j++) {
                for (int n = -1; n <= 6; n++) {
                    Samovar s = withSheets();
                    s.sheet(3, 0, 3);
                    boolean may = i >= 0 && j >= 0 && n >= 0 && i + n <= 5 && j + n <= 3;
                    due("copy(0, " + i + ", 3, " + j + ", " + n + ")", s.copy(0, i, 3, j, n), may ? 1 : INDEX);
                    due("count(8)", s.count(8), may ? 0 : 2);
                }
            }
        }
        Samovar s = withSheets();
        s.sheet(3, 0, 0);
        due("copy(3, 0, 3, 0, 0) of none", s.copy(3, 0, 3, 0, 0), 1);
        due("copy(3, 0, 3, 0, 1) of none", s.copy(3, 0, 3, 0, 1), INDEX);
        int most = Integer.MAX_VALUE;
        int[][] wraps = {{most, 0, 1}, {0, most, 1}, {1, 1, most}, {most, most, most}, {most, 0, 0}, {0, most, 0},
            {LEAST, 0, 1}, {0, LEAST, 1}, {0, 0, LEAST}, {LEAST, LEAST, LEAST}, {most, 0, LEAST}};
        for (int[] w : wraps) {
            due("copy(0, " + w[0] + ", 0, " + w[1] + ", " + w[2] + ")", s.copy(0, w[0], 0, w[1], w[2]), INDEX);
        }
        items(s, 0, 0, 1, 2, 3, 4, 5);
        // All 60, and one more.
        Samovar full = new Samovar();
        full.sheet(0, 2, 60);
        full.sheet(1, 2, 60);
        full.put(0, 2, 59, 8);
        due("copy(0, 0, 1, 0, 60)", full.copy(0, 0, 1, 0, 60), 1);
        due("get(1, 2, 59)", full.get(1, 2, 59), 8);
        due("copy(0, 0, 1, 0, 61)", full.copy(0, 0, 1, 0, 61), INDEX);
        due("copy(0, 1, 1, 0, 60)", full.copy(0, 1, 1, 0, 60), INDEX);
    }

    private static void copyRefused() {
        sentence("copy: BAD: the SHEETS; NULL: s, t; STORE");
        Samovar s = withSheets();
        for (int sheet : NO_SHEETS) {
            due("copy(" + sheet + ", 0, 0, 0, 1)", s.copy(sheet, 0, 0, 0, 1), BAD);
            due("copy(0, 0, " + sheet + ", 0, 1)", s.copy(0, 0, sheet, 0, 1), BAD);
        }
        due("count(8)", s.count(8), 0);
        due("copy(3, 0, 0, 0, 1), s", s.copy(3, 0, 0, 0, 1), NULL);
        due("copy(0, 0, 3, 0, 1), t", s.copy(0, 0, 3, 0, 1), NULL);
        due("copy(3, 0, 3, 0, 1), both", s.copy(3, 0, 3, 0, 1), NULL);
        due("count(8)", s.count(8), 1);
        due("copy(1, 0, 0, 0, 1)", s.copy(1, 0, 0, 0, 1), STORE);
        due("count(8)", s.count(8), 4);
        items(s, 0, 0, 1, 2, 3, 4, 5);
    }

    private static void writeAsManyAsThereAre() {
        sentence("behind MINUTES 0 on comes to a SHEET from item 0 on, as many as there are items, 24 at most: how many");
        for (int what = 0; what <= 2; what++) {
            for (int n : new int[] {0, 1, 2, 23, 24, 25, 60}) {
                Samovar s = Checks.hotAllEvening("dw4;ed4", 30);
                s.event(1, 7, 5);
                s.sheet(0, 0, n);
                for (int i = 0; i < n; i++) {
                    s.put(0, 0, i, -1);
                }
                due("write(" + what + ", 0) of " + n, s.write(what, 0), Math.min(24, n));
                for (int i = 0; i < n; i++) {
                    due("get(0, 0, " + i + ")", s.get(0, 0, i), i < 24 ? s.at(i, what) : -1);
                }
                due("count(8)", s.count(8), 0);
            }
        }
        for (int form = 0; form <= 2; form++) {
            Samovar s = Checks.hotAllEvening("", 40);
            s.sheet(form, form, 2);
            due("write(0, " + form + ")", s.write(0, form), 2);
            items(s, form, form, 88, 100);
            due("write(1, " + form + ")", s.write(1, form), 2);
            items(s, form, form, 30, 29);
            due("write(2, " + form + ")", s.write(2, form), 2);
            items(s, form, form, 40, 40);
        }
    }

    private static void writeRefused() {
        sentence("HEAT (what = 0), WATER (1), BREW (2). BAD; NULL");
        Samovar s = withSheets();
        for (int sheet : NO_SHEETS) {
            due("write(0, " + sheet + ")", s.write(0, sheet), BAD);
        }
        due("write(3, 0)", s.write(3, 0), BAD);
        for (int far : FAR) {
            due("write(" + far + ", 0)", s.write(far, 0), BAD);
        }
        due("count(8)", s.count(8), 0);
        due("write(0, 3)", s.write(0, 3), NULL);
        due("count(8)", s.count(8), 1);
        items(s, 0, 0, 1, 2, 3, 4, 5);
    }

    private static void counts() {
        sentence("0 PIECES, 1 GUESTS, 2 bytes of all texts, 3 EVENTS, 4 GLASSES of all, 5 WATER at first,"
            + " 6 BREW at first, 7 SEEN");
        int[] least = {0, 0, 0, 0, 0, 0, 0, 0, 0};
        Samovar s = new Samovar();
        s.set(0, 0);
        s.set(1, 0);
        for (int what = 0; what <= 8; what++) {
            due("count(" + what + ") of nothing", s.count(what), least[what]);
        }
        Samovar full = rich();
        full.set(0, 30);
        full.set(1, 40);
        int[] most = {8, 8, 62, 8, full.sum(0), 30, 40, 8, 0};
        for (int what = 0; what <= 8; what++) {
            due("count(" + what + ") of all", full.count(what), most[what]);
        }
        // WATER and BREW at first are as told, whatever came of them.
        Samovar drunk = Checks.hotAllEvening("dw1", 5);
        due("count(5)", drunk.count(5), 30);
        due("count(6)", drunk.count(6), 5);
        due("count(4)", drunk.count(4), 1);
    }

    private static void latestFinding() {
        sentence("8 the number of the latest FINDING (0 before any)");
        Samovar s = withSheets();
        due("count(8) before any", s.count(8), 0);
        s.sheet(0, 0, -1);
        due("count(8) behind SIZE", s.count(8), 5);
        s.copy(0, 0, 1, 0, 1);
        due("count(8) behind STORE", s.count(8), 4);
        s.put(0, 1, 0, 0);
        due("count(8) behind CAST", s.count(8), 3);
        s.get(0, 0, 5);
        due("count(8) behind INDEX", s.count(8), 2);
        s.lose(3);
        due("count(8) behind NULL", s.count(8), 1);
        s.lose(0);
        s.sheet(0, 0, 4);
        s.type(7, 7);
        s.back();
        due("count(8) stays behind others", s.count(8), 1);
    }

    private static void countRefused() {
        sentence("count: BAD");
        Samovar s = rich();
        due("count(9)", s.count(9), BAD);
        for (int far : FAR) {
            due("count(" + far + ")", s.count(far), BAD);
        }
    }

    private static void digestWraps() {
        sentence("h is 17; h becomes 31 h and each of: ..; as longs that wrap");
        // A fault in one text, in the other; one event that had better not be; evenings of other numbers are unlike.
        Samovar fuel = Checks.told("ak1;", "aw1", 16, 16);
        Samovar guests = Checks.told("ak1", "aw1;bw", 16, 16);
        Samovar spared = Checks.told("ab3;ab3", "aw1", 4, 16);
        spared.event(0, 3, 9);
        due("spare(0)", spared.spare(0), 0);
        due("spare(1)", spared.spare(1), NONE);
        Samovar drunk = Checks.told("ab3;ab3;fc3", "", 30, 16);
        Samovar cold = new Samovar();
        for (int n = 5; n <= 7; n++) {
            due("evenings(7, " + n + ", 0)", drunk.evenings(7, n, 0), n);
            due("evenings(7, " + n + ", 1)", cold.evenings(7, n, 1), n);
        }
        for (Samovar s : new Samovar[] {rich(), fuel, guests, spared, drunk, cold}) {
            long digest = s.digest();
            due("digest()", digest, digestOf(s));
            s.lose(3);
            due("count(8)", s.count(8), 1);
            due("digest(), count() 8 is not in it", s.digest(), digest);
        }
    }

    /** Without wrapping, and cut to a long at the end. */
    private static long digestOf(Samovar s) {
        BigInteger[] h = {BigInteger.valueOf(17)};
        for (int what = 0; what <= 7; what++) {
            join(h, s.count(what));
        }
        join(h, s.fault(0), s.fault(1));
        for (int m = 0; m < 24; m++) {
            join(h, s.at(m, 0), s.at(m, 1), s.at(m, 2), s.at(m, 3), s.at(m, 4), s.at(m, 5), s.line(m));
        }
        for (int p = 0; p < s.count(0); p++) {
            join(h, s.piece(p, 0), s.piece(p, 1), s.piece(p, 2), s.better(p, 0), s.better(p, 1), s.kind(p));
        }
        for (int g = 0; g < s.count(1); g++) {
            join(h, s.guest(g, 0), s.guest(g, 1), s.guest(g, 2));
            for (int m : new int[] {4, 11, 23}) {
                join(h, s.is(m, g, 0), s.is(m, g, 1));
            }
            join(h, s.waited(g), s.come(g, 0), s.come(g, 1), s.chance(5, g, 0), s.chance(5, g, 1));
        }
        join(h, s.sum(0), s.sum(1), s.sum(2), s.sum(3), s.sum(4), s.first(), s.hottest(0), s.hottest(1), s.thirst());
        join(h, s.fill(0), s.fill(1), s.spare(NONE), s.spare(0), s.never(), s.waters(), s.ask());
        join(h, s.evenings(7, 6, 0), s.evenings(7, 6, 1));
        return h[0].longValue();
    }

    private static void join(BigInteger[] h, long... values) {
        for (long v : values) {
            h[0] = h[0].multiply(BigInteger.valueOf(31)).add(BigInteger.valueOf(v));
        }
    }
}
