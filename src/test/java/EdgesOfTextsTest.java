/** Terms, of FUEL, GUESTS and FAULT, and promises 1 to 7: each sentence that names a boundary case. */
public final class EdgesOfTextsTest {
    private static final Checks checks = new Checks();
    private static final int NONE = -1, BAD = -2, NOT = -3, FULL = -4;
    private static final int[] FAR = {Integer.MIN_VALUE, -1, Integer.MAX_VALUE};
    private static final String EIGHT_PIECES = "ak1;bb2;cc3;dk1;eb2;fc3;wk1;xb2";
    private static final String EIGHT_GUESTS = "aw1;bd2;cw3;dd4;ew1;fd2;ww3;xd4";

    public static void main(String[] args) {
        thirtyOneBytes();
        eightPieces();
        eightGuests();
        semicolonBetween();
        letterOfAPiece();
        kindOfAPiece();
        figureOfAPiece();
        letterOfAGuest();
        kindOfAGuest();
        figureOfAGuest();
        firstByteOfFault();
        emptyIsWell();
        notEnded();
        ninth();
        fuelWithFault();
        guestsWithFault();
        aNewObject();
        aByte();
        howManyBytes();
        typeRefused();
        wiped();
        undone();
        undoRefused();
        faultRefused();
        pieceRefused();
        guestRefused();
        checks.end();
    }

    private static void sentence(String words) {
        checks.sentence(words);
    }

    private static void due(String call, long got, long want) {
        checks.due(call, got, want);
    }

    private static Samovar fuel(String bytes) {
        return Checks.told(bytes, "", 16, 16);
    }

    private static Samovar guests(String bytes) {
        return Checks.told("", bytes, 16, 16);
    }

    // ---- Terms

    private static void thirtyOneBytes() {
        for (int text = 0; text <= 1; text++) {
            sentence(text == 0 ? "FUEL is a text of up to 31 bytes (text 0)" : "GUESTS are a text of up to 31 bytes (text 1)");
            Samovar s = new Samovar();
            for (int i = 1; i <= 31; i++) {
                due("type(" + text + ", 97), byte " + i, s.type(text, 97), i);
            }
            due("a 32nd byte", s.type(text, 97), FULL);
            due("count(2) behind it", s.count(2), 31);
            due("the other text has room", s.type(1 - text, 97), 1);
        }
    }

    private static void eightPieces() {
        sentence("8 PIECES at most (0 on), with ; between them");
        Samovar s = fuel(EIGHT_PIECES);
        due("fault(0)", s.fault(0), NONE);
        due("count(0)", s.count(0), 8);
        due("piece(0, 0), the first", s.piece(0, 0), 0);
        due("piece(7, 0), the last", s.piece(7, 0), 23);
        due("piece(8, 0)", s.piece(8, 0), BAD);
        due("at(23, 3), by the last and by cones of the one ahead", s.at(23, 3), 3 + 8);
        due("better(7, 1)", s.better(7, 1), 0);
        due("kind(7)", s.kind(7), 7);
        due("better(8, 1)", s.better(8, 1), BAD);
        due("kind(8)", s.kind(8), BAD);
        Samovar one = fuel("ak1");
        due("count(0) of one", one.count(0), 1);
        due("piece(0, 2) of one", one.piece(0, 2), 1);
        due("piece(1, 2) of one", one.piece(1, 2), BAD);
    }

    private static void eightGuests() {
        sentence("8 at most (0 on), with ; between them");
        Samovar s = guests(EIGHT_GUESTS);
        due("fault(1)", s.fault(1), NONE);
        due("count(1)", s.count(1), 8);
        due("guest(0, 0), the first", s.guest(0, 0), 0);
        due("guest(7, 0), the last", s.guest(7, 0), 23);
        due("guest(8, 0)", s.guest(8, 0), BAD);
        due("is(23, 7, 0)", s.is(23, 7, 0), 1);
        due("is(23, 8, 0)", s.is(23, 8, 0), BAD);
        due("waited(7)", s.waited(7), 1);
        due("waited(8)", s.waited(8), BAD);
        due("come(7, 1)", s.come(7, 1), 0);
        due("come(8, 1)", s.come(8, 1), BAD);
        due("chance(0, 7, 1)", s.chance(0, 7, 1), 1);
        due("chance(0, 8, 1)", s.chance(0, 8, 1), Long.MIN_VALUE + 2);
        due("thirst()", s.thirst(), 255);
    }

    private static void semicolonBetween() {
        sentence("with ; between them");
        for (int b = 0; b <= 255; b++) {
            boolean well = b == ';';
            Samovar s = fuel("ak1" + (char) b + "bb2");
            due("fault(0) with byte " + b + " between", s.fault(0), well ? NONE : 3);
            due("count(0) with byte " + b + " between", s.count(0), well ? 2 : 0);
            s = guests("aw1" + (char) b + "bd2");
            due("fault(1) with byte " + b + " between", s.fault(1), well ? NONE : 3);
            due("count(1) with byte " + b + " between", s.count(1), well ? 2 : 0);
        }
        due("fault(0), one ahead", fuel(";ak1").fault(0), 0);
        due("fault(0), one behind", fuel("ak1;").fault(0), 4);
        due("fault(0), two between", fuel("ak1;;bb2").fault(0), 4);
        due("fault(0), none between", fuel("ak1bb2").fault(0), 3);
    }

    private static void letterOfAPiece() {
        sentence("a letter a to x, the MINUTE (0 to 23) in which it is put on");
        for (int b = 0; b <= 255; b++) {
            boolean well = b >= 'a' && b <= 'x';
            Samovar s = fuel((char) b + "k1");
            due("fault(0) with first byte " + b, s.fault(0), well ? NONE : 0);
            due("piece(0, 0) with first byte " + b, s.piece(0, 0), well ? b - 'a' : BAD);
        }
        due("fault(0) of a later one, `", fuel("ak1;`k1").fault(0), 4);
        due("fault(0) of a later one, y", fuel("ak1;yk1").fault(0), 4);
        due("at(0, 3) of a", fuel("ac1").at(0, 3), 3);
        due("at(22, 3) of x", fuel("xc1").at(22, 3), 0);
        due("at(23, 3) of x", fuel("xc1").at(23, 3), 3);
    }

    private static void kindOfAPiece() {
        sentence("k (cones: a fire of 3, for 3 MINUTES), b (birch: 4, for 5) or c (charcoal: 3, for 9)");
        for (int b = 0; b <= 255; b++) {
            int kind = "kbc".indexOf(b);
            Samovar s = fuel("a" + (char) b + "1");
            due("fault(0) with second byte " + b, s.fault(0), kind >= 0 ? NONE : 1);
            due("piece(0, 1) with second byte " + b, s.piece(0, 1), kind >= 0 ? kind : BAD);
        }
        burns("k", 3, 3);
        burns("b", 4, 5);
        burns("c", 3, 9);
    }

    /** The fire of one in the minutes around its first and its last, and where the evening ends ahead of it. */
    private static void burns(String kind, int fire, int minutes) {
        Samovar s = fuel("f" + kind + "1");
        due(kind + ": at(4, 3), ahead of it", s.at(4, 3), 0);
        due(kind + ": at(5, 3), its first", s.at(5, 3), fire);
        due(kind + ": at(" + (4 + minutes) + ", 3), its last", s.at(4 + minutes, 3), fire);
        due(kind + ": at(" + (5 + minutes) + ", 3), behind it", s.at(5 + minutes, 3), 0);
        char letter = (char) ('a' + 24 - minutes);
        due(kind + ": at(23, 3), just ended", fuel((char) (letter - 1) + kind + "1").at(23, 3), 0);
        due(kind + ": at(23, 3), its last", fuel(letter + kind + "1").at(23, 3), fire);
        due(kind + ": at(23, 3), its first", fuel("x" + kind + "1").at(23, 3), fire);
    }

    private static void figureOfAPiece() {
        sentence("a figure 1 to 3, how many of them at once (as many times that fire)");
        for (int b = 0; b <= 255; b++) {
            boolean well = b >= '1' && b <= '3';
            Samovar s = fuel("ab" + (char) b);
            due("fault(0) with third byte " + b, s.fault(0), well ? NONE : 2);
            due("piece(0, 2) with third byte " + b, s.piece(0, 2), well ? b - '0' : BAD);
            due("at(0, 3) with third byte " + b, s.at(0, 3), well ? 4 * (b - '0') : 0);
        }
    }

    private static void letterOfAGuest() {
        sentence("a letter a to x, the MINUTE in which one comes");
        for (int b = 0; b <= 255; b++) {
            boolean well = b >= 'a' && b <= 'x';
            Samovar s = guests((char) b + "w1");
            due("fault(1) with first byte " + b, s.fault(1), well ? NONE : 0);
            due("guest(0, 0) with first byte " + b, s.guest(0, 0), well ? b - 'a' : BAD);
        }
        due("is(0, 0, 0) of a", guests("aw1").is(0, 0, 0), 1);
        due("is(22, 0, 0) of x", guests("xw1").is(22, 0, 0), 0);
        due("is(23, 0, 0) of x", guests("xw1").is(23, 0, 0), 1);
    }

    private static void kindOfAGuest() {
        sentence("w (weak) or d (dark)");
        for (int b = 0; b <= 255; b++) {
            int kind = "wd".indexOf(b);
            Samovar s = guests("a" + (char) b + "1");
            due("fault(1) with second byte " + b, s.fault(1), kind >= 0 ? NONE : 1);
            due("guest(0, 1) with second byte " + b, s.guest(0, 1), kind >= 0 ? kind : BAD);
        }
    }

    private static void figureOfAGuest() {
        sentence("a figure 1 to 4, how many GLASSES one drinks");
        for (int b = 0; b <= 255; b++) {
            boolean well = b >= '1' && b <= '4';
            Samovar s = guests("aw" + (char) b);
            due("fault(1) with third byte " + b, s.fault(1), well ? NONE : 2);
            due("guest(0, 2) with third byte " + b, s.guest(0, 2), well ? b - '0' : BAD);
        }
        for (int glasses = 1; glasses <= 4; glasses++) {
            Samovar s = Checks.hotAllEvening("dw" + glasses, 16);
            due("is(23, 0, 1) of one who drinks " + glasses, s.is(23, 0, 1), glasses);
            due("is(23, 0, 0) of one who drinks " + glasses, s.is(23, 0, 0), 3);
        }
    }

    private static void firstByteOfFault() {
        sentence("The FAULT of a text is the place of the first byte with which it cannot go on");
        due("fault(0) of three wrong bytes", fuel("yyy").fault(0), 0);
        due("fault(0), two of three wrong", fuel("ayy").fault(0), 1);
        due("fault(0), the third and the fifth wrong", fuel("ak9;y").fault(0), 2);
        due("fault(0), the fourth and the fifth wrong", fuel("ak1,y").fault(0), 3);
        due("fault(0), the last of 31 wrong", fuel("ak1;bb2;cc3;dk1;eb2;fc3;gk1;hb4").fault(0), 30);
        due("fault(1), the last of 31 wrong", guests("aw1;bd2;cw3;dd4;ew1;fd2;gw3;hd5").fault(1), 30);
        due("fault(1), the first of the last wrong", guests("aw1;bd2;cw3;dd4;ew1;fd2;gw3;yd4").fault(1), 28);
        due("fault(0) of guests", fuel("aw1").fault(0), 1);
        due("fault(1) of fuel", guests("ak1").fault(1), 1);
    }

    private static void emptyIsWell() {
        sentence("an empty one is well");
        Samovar s = new Samovar();
        for (int text = 0; text <= 1; text++) {
            due("fault(" + text + ") of a new one", s.fault(text), NONE);
            s.type(text, 'y');
            due("fault(" + text + ") of a wrong byte", s.fault(text), 0);
            s.undo(text);
            due("fault(" + text + ") behind undo", s.fault(text), NONE);
            s.type(text, 'a');
            s.wipe(text);
            due("fault(" + text + ") behind wipe", s.fault(text), NONE);
        }
    }

    private static void notEnded() {
        sentence("of one that is not ended, its end");
        for (int text = 0; text <= 1; text++) {
            String bytes = text == 0 ? EIGHT_PIECES : EIGHT_GUESTS;
            Samovar s = new Samovar();
            for (int n = 1; n <= 31; n++) {
                s.type(text, bytes.charAt(n - 1));
                due("fault(" + text + ") of " + n + " bytes", s.fault(text), n % 4 == 3 ? NONE : n);
                due("count(" + text + ") of " + n + " bytes", s.count(text), n % 4 == 3 ? (n + 1) / 4 : 0);
            }
        }
    }

    /** Eight take all 31 bytes: the ; ahead of a ninth is refused, so that its first byte never comes. */
    private static void ninth() {
        sentence("here also of the first byte of a ninth PIECE, of a ninth of GUESTS");
        for (int text = 0; text <= 1; text++) {
            Samovar s = new Samovar();
            Checks.tell(s, text, text == 0 ? EIGHT_PIECES : EIGHT_GUESTS);
            due("type(" + text + ", 59) behind eight", s.type(text, ';'), FULL);
            due("type(" + text + ", 97) behind eight", s.type(text, 'a'), FULL);
            due("fault(" + text + ")", s.fault(text), NONE);
            due("count(" + text + ")", s.count(text), 8);
        }
    }

    private static void fuelWithFault() {
        sentence("With a FAULT a text is as if it was empty: FUEL");
        Samovar s = Checks.told("ab3;ab3", "aw1", 4, 16);
        due("sum(0)", s.sum(0), 1);
        s.type(0, ';');
        due("count(0)", s.count(0), 0);
        due("count(2), the bytes are there", s.count(2), 11);
        due("piece(0, 0)", s.piece(0, 0), BAD);
        due("better(0, 0)", s.better(0, 0), BAD);
        due("kind(0)", s.kind(0), BAD);
        due("at(0, 3)", s.at(0, 3), 0);
        due("sum(0)", s.sum(0), 0);
        due("count(1), the other text as told", s.count(1), 1);
        s.undo(0);
        due("sum(0), well again", s.sum(0), 1);
    }

    private static void guestsWithFault() {
        sentence("With a FAULT a text is as if it was empty: GUESTS");
        Samovar s = Checks.told("ab3;ab3", "aw1", 4, 16);
        s.type(1, 0);
        due("count(1)", s.count(1), 0);
        due("count(2), the bytes are there", s.count(2), 11);
        due("guest(0, 0)", s.guest(0, 0), BAD);
        due("is(0, 0, 0)", s.is(0, 0, 0), BAD);
        due("waited(0)", s.waited(0), BAD);
        due("come(0, 0)", s.come(0, 0), BAD);
        due("chance(0, 0, 0)", s.chance(0, 0, 0), Long.MIN_VALUE + 2);
        due("line(0)", s.line(0), 0);
        due("sum(0)", s.sum(0), 0);
        due("thirst()", s.thirst(), 0);
        due("at(0, 3), the other text as told", s.at(0, 3), 24);
        s.undo(1);
        due("sum(0), well again", s.sum(0), 1);
    }

    // ---- promises 1 to 7

    private static void aNewObject() {
        sentence("No FUEL, no GUESTS told, WATER 16, BREW 16, no EVENTS; all SHEETS are LOST");
        Samovar s = new Samovar();
        due("wipe(0)", s.wipe(0), 0);
        due("wipe(1)", s.wipe(1), 0);
        due("piece(0, 0)", s.piece(0, 0), BAD);
        due("guest(0, 0)", s.guest(0, 0), BAD);
        due("back()", s.back(), NOT);
        due("forget()", s.forget(), 0);
        due("set(0, 0)", s.set(0, 0), 16);
        due("set(1, 0)", s.set(1, 0), 16);
        for (int sheet = 0; sheet <= 3; sheet++) {
            due("write(0, " + sheet + ")", s.write(0, sheet), -11);
        }
    }

    private static void aByte() {
        sentence("A byte (0 to 255) comes behind a text: BAD");
        Samovar s = new Samovar();
        for (int b : new int[] {Integer.MIN_VALUE, -1, 256, Integer.MAX_VALUE, 'a' + 256, 'a' - 256}) {
            due("type(0, " + b + ")", s.type(0, b), BAD);
            due("type(1, " + b + ")", s.type(1, b), BAD);
        }
        due("count(2)", s.count(2), 0);
        due("type(0, 0)", s.type(0, 0), 1);
        due("type(0, 255)", s.type(0, 255), 2);
        due("type(1, 255)", s.type(1, 255), 1);
        due("type(1, 0)", s.type(1, 0), 2);
    }

    private static void howManyBytes() {
        sentence("comes behind a text: how many");
        Samovar s = new Samovar();
        due("type(0, 97)", s.type(0, 'a'), 1);
        due("type(1, 97), of that text alone", s.type(1, 'a'), 1);
        due("type(1, 119)", s.type(1, 'w'), 2);
        due("type(0, 107)", s.type(0, 'k'), 2);
        due("type(0, 50)", s.type(0, '2'), 3);
        due("piece(0, 2), as typed", s.piece(0, 2), 2);
    }

    private static void typeRefused() {
        sentence("type: BAD; FULL");
        Samovar s = new Samovar();
        for (int text : new int[] {Integer.MIN_VALUE, -1, 2, Integer.MAX_VALUE}) {
            due("type(" + text + ", 97)", s.type(text, 'a'), BAD);
        }
        Checks.tell(s, 0, EIGHT_PIECES);
        due("type(0, 97) of a full text", s.type(0, 'a'), FULL);
        due("type(0, 256) of a full text", s.type(0, 256), BAD);
        due("type(2, 97) beside a full text", s.type(2, 'a'), BAD);
        due("count(2)", s.count(2), 31);
        due("fault(0)", s.fault(0), NONE);
    }

    private static void wiped() {
        sentence("A text is empty: how many bytes it had. BAD");
        Samovar s = Checks.told(EIGHT_PIECES, EIGHT_GUESTS, 16, 16);
        for (int text : new int[] {Integer.MIN_VALUE, -1, 2, Integer.MAX_VALUE}) {
            due("wipe(" + text + ")", s.wipe(text), BAD);
        }
        due("count(2)", s.count(2), 62);
        due("at(0, 3)", s.at(0, 3), 3);
        due("wipe(0) of a full text", s.wipe(0), 31);
        due("wipe(0) of an empty text", s.wipe(0), 0);
        due("count(0)", s.count(0), 0);
        due("count(1), the other as told", s.count(1), 8);
        due("at(0, 3)", s.at(0, 3), 0);
        due("type(0, 97), there is room again", s.type(0, 'a'), 1);
        s.type(1, 0);
        due("wipe(1)", s.wipe(1), 31);
        s.type(1, 'y');
        due("wipe(1) of a text with a fault", s.wipe(1), 1);
        due("fault(1)", s.fault(1), NONE);
    }

    private static void undone() {
        sentence("The last byte of a text is undone: how many are left");
        Samovar s = Checks.told(EIGHT_PIECES, "", 16, 16);
        due("undo(0) of a full text", s.undo(0), 30);
        due("fault(0)", s.fault(0), 30);
        due("type(0, 51), another last byte", s.type(0, '3'), 31);
        due("piece(7, 2)", s.piece(7, 2), 3);
        for (int left = 30; left >= 0; left--) {
            due("undo(0)", s.undo(0), left);
            due("count(0) of " + left + " bytes", s.count(0), left % 4 == 3 ? (left + 1) / 4 : 0);
        }
        due("fault(0) of none", s.fault(0), NONE);
    }

    private static void undoRefused() {
        sentence("undo: BAD; NOT: it is empty");
        Samovar s = guests("aw1");
        for (int text : new int[] {Integer.MIN_VALUE, -1, 2, Integer.MAX_VALUE}) {
            due("undo(" + text + ")", s.undo(text), BAD);
        }
        due("undo(0), the other is not empty", s.undo(0), NOT);
        due("count(2)", s.count(2), 3);
        s.undo(1);
        s.undo(1);
        due("undo(1) of one byte", s.undo(1), 0);
        due("undo(1) of none", s.undo(1), NOT);
        due("type(1, 97) behind it", s.type(1, 'a'), 1);
    }

    private static void faultRefused() {
        sentence("The FAULT of a text; NONE. BAD");
        Samovar s = fuel("y");
        due("fault(0)", s.fault(0), 0);
        due("fault(1)", s.fault(1), NONE);
        for (int text : new int[] {Integer.MIN_VALUE, -1, 2, Integer.MAX_VALUE}) {
            due("fault(" + text + ")", s.fault(text), BAD);
        }
    }

    private static void pieceRefused() {
        sentence("The MINUTE (what = 0), kind (1: 0 k, 1 b, 2 c), how many (2) of a PIECE as told. BAD");
        Samovar s = fuel("xc3");
        due("piece(0, 0)", s.piece(0, 0), 23);
        due("piece(0, 1)", s.piece(0, 1), 2);
        due("piece(0, 2)", s.piece(0, 2), 3);
        due("piece(0, 3)", s.piece(0, 3), BAD);
        due("piece(1, 0)", s.piece(1, 0), BAD);
        for (int far : FAR) {
            due("piece(0, " + far + ")", s.piece(0, far), BAD);
            due("piece(" + far + ", 0)", s.piece(far, 0), BAD);
        }
        due("piece(0, 0) of none", new Samovar().piece(0, 0), BAD);
    }

    private static void guestRefused() {
        sentence("The MINUTE (what = 0), whether dark (1: 0 w, 1 d), GLASSES (2) of one of GUESTS as told. BAD");
        Samovar s = guests("xd4");
        due("guest(0, 0)", s.guest(0, 0), 23);
        due("guest(0, 1)", s.guest(0, 1), 1);
        due("guest(0, 2)", s.guest(0, 2), 4);
        due("guest(0, 3)", s.guest(0, 3), BAD);
        due("guest(1, 0)", s.guest(1, 0), BAD);
        for (int far : FAR) {
            due("guest(0, " + far + ")", s.guest(0, far), BAD);
            due("guest(" + far + ", 0)", s.guest(far, 0), BAD);
        }
        due("guest(0, 0) of none", new Samovar().guest(0, 0), BAD);
    }
}
