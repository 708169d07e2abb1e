/** Promises 1 to 11: what is told to a samovar, and undone. */
public final class TellingTest {
    private static final Checks checks = new Checks();
    private static final int NULL = -11;

    public static void main(String[] args) {
        aNewObject();
        type();
        wipe();
        undo();
        fault();
        ninth();
        piece();
        guest();
        set();
        event();
        back();
        read();
        readBehindTold();
        readComesLast();
        readStops();
        refusalsChangeNothing();
        checks.end();
    }

    private static void due(int promise, String call, long got, long want) {
        checks.due(promise, call, got, want);
    }

    private static void aNewObject() {
        Samovar s = new Samovar();
        int[] counts = {0, 0, 0, 0, 0, 16, 16, 0, 0};
        for (int what = 0; what < counts.length; what++) {
            due(1, "count(" + what + ")", s.count(what), counts[what]);
        }
        due(1, "fault(0)", s.fault(0), -1);
        due(1, "fault(1)", s.fault(1), -1);
        for (int sheet = 0; sheet < 4; sheet++) {
            due(1, "lose(" + sheet + ")", s.lose(sheet), NULL);
        }
        due(1, "at(0, 1)", s.at(0, 1), 16);
        due(1, "at(0, 2)", s.at(0, 2), 16);
    }

    private static void type() {
        Samovar s = new Samovar();
        due(2, "type(-1, 97)", s.type(-1, 97), -2);
        due(2, "type(2, 97)", s.type(2, 97), -2);
        due(2, "type(0, -1)", s.type(0, -1), -2);
        due(2, "type(0, 256)", s.type(0, 256), -2);
        due(2, "count(2)", s.count(2), 0);
        due(2, "type(0, 0)", s.type(0, 0), 1);
        due(2, "type(1, 255)", s.type(1, 255), 1);
        for (int i = 2; i <= 31; i++) {
            due(2, "type(0, 97)", s.type(0, 97), i);
        }
        due(2, "type(0, 97) of a full text", s.type(0, 97), -4);
        due(2, "type(0, 256) of a full text", s.type(0, 256), -2);
        due(2, "type(1, 97) beside a full text", s.type(1, 97), 2);
        due(2, "count(2)", s.count(2), 33);
    }

    private static void wipe() {
        Samovar s = Checks.told("ak1;bb2", "aw1", 16, 16);
        due(3, "wipe(-1)", s.wipe(-1), -2);
        due(3, "wipe(2)", s.wipe(2), -2);
        due(3, "wipe(0)", s.wipe(0), 7);
        due(3, "wipe(0)", s.wipe(0), 0);
        due(3, "count(0)", s.count(0), 0);
        due(3, "count(1)", s.count(1), 1);
        due(3, "fault(0)", s.fault(0), -1);
        due(3, "wipe(1)", s.wipe(1), 3);
        due(3, "count(2)", s.count(2), 0);
    }

    private static void undo() {
        Samovar s = Checks.told("ak1;b", "aw1", 16, 16);
        due(4, "undo(-1)", s.undo(-1), -2);
        due(4, "undo(2)", s.undo(2), -2);
        due(4, "undo(0)", s.undo(0), 4);
        due(4, "fault(0)", s.fault(0), 4);
        due(4, "undo(0)", s.undo(0), 3);
        due(4, "fault(0)", s.fault(0), -1);
        due(4, "piece(0, 2)", s.piece(0, 2), 1);
        due(4, "at(0, 3)", s.at(0, 3), 3);
        due(4, "undo(0)", s.undo(0), 2);
        due(4, "at(0, 3)", s.at(0, 3), 0);
        due(4, "undo(1)", s.undo(1), 2);
        due(4, "undo(1)", s.undo(1), 1);
        due(4, "undo(1)", s.undo(1), 0);
        due(4, "undo(1)", s.undo(1), -3);
        due(4, "type(1, 98)", s.type(1, 98), 1);
        due(4, "fault(1)", s.fault(1), 1);
    }

    private static void faultOf(int text, String bytes, int want) {
        Samovar s = new Samovar();
        Checks.tell(s, text, bytes);
        due(5, "fault(" + text + ") of " + bytes, s.fault(text), want);
        int entries = want == -1 && !bytes.isEmpty() ? (bytes.length() + 1) / 4 : 0;
        due(5, "count(" + text + ") of " + bytes, s.count(text), entries);
    }

    private static void fault() {
        Samovar s = new Samovar();
        due(5, "fault(-1)", s.fault(-1), -2);
        due(5, "fault(2)", s.fault(2), -2);
        faultOf(0, "", -1);
        faultOf(0, "a", 1);
        faultOf(0, "ak", 2);
        faultOf(0, "ak1", -1);
        faultOf(0, "ak1;", 4);
        faultOf(0, "ak1;x", 5);
        faultOf(0, "ak1;xc3", -1);
        faultOf(0, "y", 0);
        faultOf(0, "`k1", 0);
        faultOf(0, "Ak1", 0);
        faultOf(0, ";", 0);
        faultOf(0, "al1", 1);
        faultOf(0, "aw1", 1);
        faultOf(0, "aK1", 1);
        faultOf(0, "ak0", 2);
        faultOf(0, "ak4", 2);
        faultOf(0, "ak1,", 3);
        faultOf(0, "ak1;;", 4);
        faultOf(0, "ak1;bb2;yk1", 8);
        faultOf(0, "ak1;bb2 ", 7);
        faultOf(0, "a\u00ff1", 1);
        faultOf(0, "a\u00001", 1);
        faultOf(1, "", -1);
        faultOf(1, "xd4", -1);
        faultOf(1, "aw5", 2);
        faultOf(1, "aw0", 2);
        faultOf(1, "ak1", 1);
        faultOf(1, "yw1", 0);
        faultOf(1, "aw1;", 4);
    }

    private static void ninth() {
        // Eight entries take all 31 bytes, so the ninth can only be refused as a byte.
        Samovar s = new Samovar();
        Checks.tell(s, 0, "ak1;bk1;ck1;dk1;ek1;fk1;gk1;hk1");
        due(5, "fault(0) of eight pieces", s.fault(0), -1);
        due(5, "count(0) of eight pieces", s.count(0), 8);
        due(2, "type(0, 59) behind eight pieces", s.type(0, 59), -4);
        due(4, "undo(0) of eight pieces", s.undo(0), 30);
        due(5, "fault(0) of seven pieces and two bytes", s.fault(0), 30);
        due(5, "count(0) of seven pieces and two bytes", s.count(0), 0);
    }

    private static void piece() {
        Samovar s = Checks.told("ak1;xb2;mc3", "", 16, 16);
        int[][] parts = {{0, 0, 1}, {23, 1, 2}, {12, 2, 3}};
        for (int p = 0; p < 3; p++) {
            for (int what = 0; what < 3; what++) {
                due(6, "piece(" + p + ", " + what + ")", s.piece(p, what), parts[p][what]);
            }
            due(6, "piece(" + p + ", -1)", s.piece(p, -1), -2);
            due(6, "piece(" + p + ", 3)", s.piece(p, 3), -2);
        }
        due(6, "piece(-1, 0)", s.piece(-1, 0), -2);
        due(6, "piece(3, 0)", s.piece(3, 0), -2);
        s.type(0, ';');
        due(6, "piece(0, 0) of a text with a fault", s.piece(0, 0), -2);
    }

    private static void guest() {
        Samovar s = Checks.told("", "aw1;xd4", 16, 16);
        int[][] parts = {{0, 0, 1}, {23, 1, 4}};
        for (int g = 0; g < 2; g++) {
            for (int what = 0; what < 3; what++) {
                due(7, "guest(" + g + ", " + what + ")", s.guest(g, what), parts[g][what]);
            }
            due(7, "guest(" + g + ", -1)", s.guest(g, -1), -2);
            due(7, "guest(" + g + ", 3)", s.guest(g, 3), -2);
        }
        due(7, "guest(-1, 0)", s.guest(-1, 0), -2);
        due(7, "guest(2, 0)", s.guest(2, 0), -2);
        s.undo(1);
        due(7, "guest(0, 0) of a text with a fault", s.guest(0, 0), -2);
    }

    private static void set() {
        Samovar s = new Samovar();
        due(8, "set(0, 0)", s.set(0, 0), 16);
        due(8, "set(0, 30)", s.set(0, 30), 0);
        due(8, "set(0, 31)", s.set(0, 31), -2);
        due(8, "set(0, -1)", s.set(0, -1), -2);
        due(8, "count(5)", s.count(5), 30);
        due(8, "set(1, 0)", s.set(1, 0), 16);
        due(8, "set(1, 40)", s.set(1, 40), 0);
        due(8, "set(1, 41)", s.set(1, 41), -2);
        due(8, "set(1, -1)", s.set(1, -1), -2);
        due(8, "count(6)", s.count(6), 40);
        due(8, "set(-1, 5)", s.set(-1, 5), -2);
        due(8, "set(2, 5)", s.set(2, 5), -2);
        due(8, "at(0, 1)", s.at(0, 1), 30);
        due(8, "at(0, 2)", s.at(0, 2), 40);
    }

    private static void event() {
        Samovar s = new Samovar();
        due(9, "event(-1, 0, 0)", s.event(-1, 0, 0), -2);
        due(9, "event(3, 0, 0)", s.event(3, 0, 0), -2);
        due(9, "event(0, -1, 0)", s.event(0, -1, 0), -2);
        due(9, "event(0, 24, 0)", s.event(0, 24, 0), -2);
        due(9, "event(0, 0, -1)", s.event(0, 0, -1), -2);
        due(9, "event(0, 0, 10)", s.event(0, 0, 10), -2);
        due(9, "event(2, 0, 10)", s.event(2, 0, 10), -2);
        due(9, "count(3)", s.count(3), 0);
        for (int i = 1; i <= 8; i++) {
            due(9, "event", s.event(i % 3, 23, 9), i);
        }
        due(9, "event(0, 0, 0), a ninth", s.event(0, 0, 0), -4);
        due(9, "event(3, 0, 0), a ninth", s.event(3, 0, 0), -2);
        due(9, "count(3)", s.count(3), 8);
    }

    private static void back() {
        Samovar s = new Samovar();
        due(10, "back()", s.back(), -3);
        s.event(0, 5, 9);
        s.event(0, 6, 2);
        due(10, "at(23, 1)", s.at(23, 1), 27);
        due(10, "back()", s.back(), 1);
        due(10, "at(23, 1)", s.at(23, 1), 25);
        due(10, "back()", s.back(), 0);
        due(10, "at(23, 1)", s.at(23, 1), 16);
        due(10, "back()", s.back(), -3);
        due(10, "event(1, 0, 1)", s.event(1, 0, 1), 1);
    }

    private static void fillSheet(Samovar s, int sheet, int form, int... items) {
        s.sheet(sheet, form, items.length);
        for (int i = 0; i < items.length; i++) {
            s.put(sheet, form, i, items[i]);
        }
    }

    private static void read() {
        Samovar s = new Samovar();
        due(11, "read(-1)", s.read(-1), -2);
        due(11, "read(4)", s.read(4), -2);
        due(11, "count(8)", s.count(8), 0);
        due(11, "read(0)", s.read(0), NULL);
        due(11, "count(8)", s.count(8), 1);
        fillSheet(s, 3, 1, 0, 5, 7, 1, 6, 9, 2);
        due(11, "read(3) of seven items", s.read(3), 2);
        due(11, "count(3)", s.count(3), 2);
        due(11, "at(5, 1)", s.at(5, 1), 23);
        due(11, "at(6, 2)", s.at(6, 2), 25);
        s.sheet(1, 0, 2);
        due(11, "read(1) of two items", s.read(1), 0);
        due(11, "count(3) behind none read", s.count(3), 2);
        due(11, "at(6, 2) behind none read", s.at(6, 2), 25);
        s.sheet(1, 0, 0);
        due(11, "read(1) of no items", s.read(1), 0);
        due(11, "count(3)", s.count(3), 2);
        s.lose(1);
        due(11, "read(1), lost", s.read(1), NULL);
        due(11, "count(3) behind a refusal", s.count(3), 2);
        s.sheet(2, 2, 60);
        due(11, "read(2) of sixty items, two told before", s.read(2), 6);
        due(11, "count(3)", s.count(3), 8);
        Samovar empty = new Samovar();
        empty.sheet(2, 2, 60);
        due(11, "read(2) of sixty items, none told before", empty.read(2), 8);
        due(11, "count(3)", empty.count(3), 8);
    }

    /** Nothing says that events told before are undone: those of a sheet come behind them. */
    private static void readBehindTold() {
        Samovar s = new Samovar();
        s.event(1, 6, 1);
        fillSheet(s, 0, 1, 0, 5, 7, 1, 6, 9);
        due(11, "read(0) behind one told", s.read(0), 2);
        due(11, "count(3)", s.count(3), 3);
        due(11, "never()", s.never(), 7);
        due(11, "at(5, 1)", s.at(5, 1), 23);
        due(11, "at(6, 2)", s.at(6, 2), 26);
        due(11, "read(0) once more", s.read(0), 2);
        due(11, "count(3)", s.count(3), 5);
        due(11, "at(5, 1), to 30 at most", s.at(5, 1), 30);
        due(11, "at(6, 2)", s.at(6, 2), 35);
        due(11, "back()", s.back(), 4);
        due(11, "at(6, 2) without the last one", s.at(6, 2), 26);
        due(11, "event(2, 0, 0)", s.event(2, 0, 0), 5);
        due(11, "event(2, 1, 0)", s.event(2, 1, 0), 6);
        due(11, "event(2, 2, 0)", s.event(2, 2, 0), 7);
        due(11, "read(0), one place left", s.read(0), 1);
        due(11, "count(3)", s.count(3), 8);
        due(11, "at(6, 2), the second one left out", s.at(6, 2), 26);
        due(11, "read(0), no place left", s.read(0), 0);
        due(11, "count(3)", s.count(3), 8);
        due(11, "count(8)", s.count(8), 0);
        due(11, "back()", s.back(), 7);
    }

    /** back() undoes the last event, so it shows whether those of a sheet come behind or ahead. */
    private static void readComesLast() {
        Samovar told = Checks.told("ab3;ab3", "aw2", 28, 16);
        told.event(0, 4, 1);
        told.event(0, 4, 9);
        Samovar read = Checks.told("ab3;ab3", "aw2", 28, 16);
        read.event(0, 4, 1);
        fillSheet(read, 0, 0, 0, 4, 9);
        read.read(0);
        due(11, "digest() of told and read alike", read.digest(), told.digest());
        read.back();
        told.back();
        due(11, "digest() behind back(): the one read is undone", read.digest(), told.digest());
        // 29 glasses, hot enough to boil (68 - 4 + 24 - 7), and one is served; with the other event it would be 30.
        due(11, "at(4, 0) behind back()", read.at(4, 0), 81);
        due(11, "at(4, 1) behind back()", read.at(4, 1), 28);
    }

    private static void readStops() {
        int[][] wrongs = {{3, 0, 0}, {-1, 0, 0}, {0, 24, 0}, {0, -1, 0}, {0, 0, 10}, {0, 0, -1}};
        for (int[] wrong : wrongs) {
            Samovar s = new Samovar();
            fillSheet(s, 0, 0, 1, 2, 3, wrong[0], wrong[1], wrong[2], 2, 23, 9);
            due(11, "read(0) with a wrong second event", s.read(0), 1);
            due(11, "at(2, 2)", s.at(2, 2), 19);
            due(11, "count(3)", s.count(3), 1);
            fillSheet(s, 0, 0, wrong);
            due(11, "read(0) with a wrong first event", s.read(0), 0);
            due(11, "count(3), the one told before stays", s.count(3), 1);
        }
    }

    private static void refusalsChangeNothing() {
        Samovar s = Checks.told("ab3;ab3", "aw2", 16, 16);
        s.event(0, 4, 3);
        long before = s.digest();
        s.type(2, 97);
        s.type(0, 300);
        s.wipe(7);
        s.undo(-1);
        s.set(0, 31);
        s.set(1, 41);
        s.event(0, 24, 0);
        s.read(0);
        s.read(9);
        s.seen(24, 0);
        due(39, "digest() behind refusals", s.digest(), before);
        due(38, "count(8) behind refusals", s.count(8), 1);
    }
}
