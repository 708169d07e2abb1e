/** Terms, section 2, and promises 8 to 19: each sentence that names a boundary case. */
public final class EdgesOfMinutesTest {
    private static final Checks checks = new Checks();
    private static final int NONE = -1, BAD = -2, NOT = -3, FULL = -4, NULL = -11;
    private static final int[] FAR = {Integer.MIN_VALUE, -1, Integer.MAX_VALUE};
    private static final String EIGHT_AT_ONCE = "aw1;aw1;aw1;aw1;aw1;aw1;aw1;aw1";

    public static void main(String[] args) {
        boiledAheadOfGuests();
        servedOrNone();
        whatOneIs();
        glassesOfOne();
        lineLength();
        glassesOfAll();
        contentAndGone();
        steamedAway();
        boiledMinutes();
        firstMinute();
        hottestMinute();
        waitedMinutes();
        thirstBits();
        setAnswersWhatItWas();
        setRefused();
        eventHowMany();
        eventRefused();
        backHowMany();
        readWhole();
        readAsLongAsEachMayBe();
        readToEight();
        readOfEachForm();
        readRefused();
        atRefused();
        isRefused();
        lineRefused();
        sumRefused();
        hottestRefused();
        waitedRefused();
        checks.end();
    }

    private static void sentence(String words) {
        checks.sentence(words);
    }

    private static void due(String call, long got, long want) {
        checks.due(call, got, want);
    }

    /** HEAT is 22, 44, 66, 88, 100 in minutes 0 to 4, then 2 less in each; a glass steams away in 4. */
    private static Samovar hot(String guests, int water) {
        return Checks.told("ab3;ab3", guests, water, 16);
    }

    private static void sheetOf(Samovar s, int sheet, int form, int... items) {
        s.sheet(sheet, form, items.length);
        for (int i = 0; i < items.length; i++) {
            s.put(sheet, form, i, items[i]);
        }
    }

    // ---- Terms, section 2

    private static void boiledAheadOfGuests() {
        sentence("whether it BOILED in it (ahead of GUESTS)");
        // The one glass there is is drunk in minute 3.
        Samovar s = hot("dw1", 1);
        due("at(3, 4)", s.at(3, 4), 1);
        due("at(3, 5)", s.at(3, 5), 0);
        due("at(3, 1)", s.at(3, 1), 0);
        due("at(4, 4)", s.at(4, 4), 0);
        due("sum(4)", s.sum(4), 1);
    }

    private static void servedOrNone() {
        sentence("who was SERVED in it (NONE)");
        Samovar s = hot("dw1", 4);
        due("at(2, 5), it does not boil", s.at(2, 5), NONE);
        due("at(3, 5), the first of guests", s.at(3, 5), 0);
        due("at(4, 5), nobody is there", s.at(4, 5), NONE);
        Samovar last = Checks.hotAllEvening("aw4;aw4;aw4;aw4;aw4;aw4;aw4;xw1", 5);
        due("at(23, 5), no brew is left", last.at(23, 5), NONE);
        last.event(1, 23, 1);
        due("at(23, 5), the last of guests", last.at(23, 5), 7);
    }

    private static void whatOneIs() {
        sentence("0 not there yet, 1 in the line, 2 drinks, 3 CONTENT, 4 GONE");
        Samovar s = hot("cw2;cw1;cd1", 4);
        s.set(1, 2);
        int[][] wants = {{0, 0, 1, 2, 2, 2, 1, 1, 1, 1, 1, 4}, {0, 0, 1, 1, 3, 3, 3, 3, 3, 3, 3, 3},
            {0, 0, 1, 1, 1, 1, 1, 4, 4, 4, 4, 4}};
        for (int g = 0; g < 3; g++) {
            for (int m = 0; m < 12; m++) {
                due("is(" + m + ", " + g + ", 0)", s.is(m, g, 0), wants[g][m]);
            }
        }
    }

    private static void glassesOfOne() {
        sentence("how many GLASSES one has had");
        Samovar s = Checks.hotAllEvening("dw4;xw1", 40);
        int[] wants = {0, 0, 0, 1, 1, 1, 2, 2, 2, 3, 3, 3, 4, 4, 4};
        for (int m = 0; m < wants.length; m++) {
            due("is(" + m + ", 0, 1)", s.is(m, 0, 1), wants[m]);
        }
        due("is(23, 0, 1)", s.is(23, 0, 1), 4);
        due("is(22, 1, 1), not there yet", s.is(22, 1, 1), 0);
        due("is(23, 1, 1)", s.is(23, 1, 1), 1);
        Samovar eight = Checks.hotAllEvening("aw1;aw1;aw1;aw1;aw1;aw1;gw1;gw2", 40);
        due("is(6, 7, 1) of the eighth", eight.is(6, 7, 1), 0);
        due("is(7, 7, 1) of the eighth", eight.is(7, 7, 1), 1);
        due("is(23, 7, 1) of the eighth", eight.is(23, 7, 1), 2);
    }

    private static void lineLength() {
        sentence("How long the line is");
        Samovar s = Checks.told("", EIGHT_AT_ONCE, 16, 16);
        due("line(0) of eight", s.line(0), 8);
        due("line(4) of eight", s.line(4), 8);
        due("line(5), all are gone", s.line(5), 0);
        due("line(23)", s.line(23), 0);
        due("line(0) without guests", new Samovar().line(0), 0);
        due("line(3), one came and was served", hot("dw2", 4).line(3), 0);
        // Who is in the line at the end of one evening is not there at the beginning of another.
        Samovar again = Checks.told("", "xw1;xw1", 16, 16);
        due("line(23) of two", again.line(23), 2);
        again.set(0, 15);
        due("line(0) of another evening", again.line(0), 0);
        due("line(23) of another evening", again.line(23), 2);
    }

    private static void glassesOfAll() {
        sentence("SUM: GLASSES of all");
        due("sum(0) without guests", hot("", 4).sum(0), 0);
        // In minutes 3, 4 and 5 of four glasses, as one steams away; the last one is drunk in minute 5.
        due("sum(0) of eight", hot(EIGHT_AT_ONCE, 4).sum(0), 3);
        due("count(4) of eight", hot(EIGHT_AT_ONCE, 4).count(4), 3);
        due("sum(0), one in minute 23", Checks.hotAllEvening("xw4", 16).sum(0), 1);
        due("sum(0), one in minute 0", Checks.hotAllEvening("aw1", 16).sum(0), 1);
        // One who went has had what one had.
        due("sum(0), of one who went", hot("aw2", 2).sum(0), 1);
    }

    private static void contentAndGone() {
        sentence("how many are CONTENT, GONE");
        Samovar none = new Samovar();
        due("sum(1) without guests", none.sum(1), 0);
        due("sum(2) without guests", none.sum(2), 0);
        Samovar cold = Checks.told("", EIGHT_AT_ONCE, 16, 16);
        due("sum(1), all went", cold.sum(1), 0);
        due("sum(2), all went", cold.sum(2), 8);
        Samovar all = Checks.hotAllEvening("aw1;bw1;cw1;dw1;ew1;fw1;gw1;xw1", 8);
        due("sum(1), all are content", all.sum(1), 8);
        due("sum(2), all are content", all.sum(2), 0);
        // Neither: one drinks, one is in the line, behind minute 23.
        Samovar late = Checks.hotAllEvening("ww2;xw2;xw2", 8);
        due("sum(1), of late ones", late.sum(1), 0);
        due("sum(2), of late ones", late.sum(2), 0);
    }

    private static void steamedAway() {
        sentence("how many GLASSES STEAMED away");
        due("sum(3) without fuel", new Samovar().sum(3), 0);
        due("sum(3) without water", hot("", 0).sum(3), 0);
        due("sum(3) of one glass", hot("", 1).sum(3), 1);
        // What is drunk does not steam away.
        due("sum(3), the one glass drunk", hot("dw1", 1).sum(3), 0);
        due("sum(3) of 22 minutes", Checks.hotAllEvening("", 16).sum(3), 22);
    }

    private static void boiledMinutes() {
        sentence("in how many MINUTES it BOILED");
        due("sum(4) without fuel", new Samovar().sum(4), 0);
        due("sum(4), all of them", Checks.hotAllEvening("", 16).sum(4), 24);
        Samovar last = Checks.told("wb3;wb3;wb3;xb3;xb3", "", 4, 16);
        due("sum(4), the last alone", last.sum(4), 1);
        due("sum(4), none without water", Checks.told("wb3;wb3;wb3;xb3;xb3", "", 0, 16).sum(4), 0);
    }

    private static void firstMinute() {
        sentence("FIRST: the first MINUTE in which it BOILED; NONE");
        due("first() of a new one", new Samovar().first(), NONE);
        due("first(), minute 0", Checks.hotAllEvening("", 16).first(), 0);
        // 34, then 34 and 58: 92.
        due("first(), minute 23", Checks.told("wb3;wb3;wb3;xb3;xb3", "", 4, 16).first(), 23);
        due("first() without water", Checks.told("wb3;wb3;wb3;xb3;xb3", "", 0, 16).first(), NONE);
        // Twice: from 3 on, and, by water of minute 7, from then on again.
        Samovar s = hot("dw1", 1);
        s.event(0, 7, 1);
        due("at(4, 4)", s.at(4, 4), 0);
        due("at(7, 4)", s.at(7, 4), 1);
        due("first(), the first of two", s.first(), 3);
    }

    private static void hottestMinute() {
        sentence("HOTTEST: the first MINUTE behind which HEAT is greatest; how great");
        Samovar cold = new Samovar();
        due("hottest(0) of 0 all the time", cold.hottest(0), 0);
        due("hottest(1) of 0 all the time", cold.hottest(1), 0);
        Samovar hot = Checks.hotAllEvening("", 16);
        due("hottest(0), 100 in 1 to 22", hot.hottest(0), 1);
        due("hottest(1)", hot.hottest(1), 100);
        Samovar last = Checks.told("xk1", "", 4, 16);
        due("hottest(0), minute 23", last.hottest(0), 23);
        due("hottest(1), minute 23", last.hottest(1), 1);
        // 1, 2, 3, then 0, then 1, 2, 3 once more: the first of like ones.
        Samovar twice = Checks.told("ak1;gk1", "", 4, 16);
        due("at(8, 0)", twice.at(8, 0), 3);
        due("hottest(0) of like ones", twice.hottest(0), 2);
        due("hottest(1) of like ones", twice.hottest(1), 3);
    }

    private static void waitedMinutes() {
        sentence("WAITED of one of GUESTS: in how many MINUTES one is in the line, behind it");
        due("waited(0), served at once", hot("dw1", 4).waited(0), 0);
        due("waited(0), of minute 23", Checks.told("", "xw1", 16, 16).waited(0), 1);
        due("waited(0), gone behind the sixth", Checks.told("", "aw1", 16, 16).waited(0), 5);
        due("waited(0), served in the sixth", Checks.told("gb3;gb3", "ew1", 4, 16).waited(0), 5);
        // 0 to 2, and 6 to 10.
        due("waited(0), twice", hot("aw2", 2).waited(0), 8);
    }

    private static void thirstBits() {
        sentence("THIRST: GUESTS who have had less than all, behind MINUTE 23, as bits");
        due("thirst() without guests", new Samovar().thirst(), 0);
        due("thirst() of eight", Checks.told("", EIGHT_AT_ONCE, 16, 16).thirst(), 255);
        due("thirst() of the first", hot("aw2", 2).thirst(), 1);
        due("thirst(), content in minute 23", Checks.hotAllEvening("xw1", 16).thirst(), 0);
        due("thirst() of one who drinks in minute 23", Checks.hotAllEvening("xw2", 16).thirst(), 1);
        due("thirst() of the eighth", Checks.hotAllEvening("aw1;bw1;cw1;dw1;ew1;fw1;gw1;xw2", 16).thirst(), 128);
    }

    // ---- promises 8 to 11

    private static void setAnswersWhatItWas() {
        sentence("WATER at first (what = 0: 0 to 30), BREW at first (1: 0 to 40): what it was");
        Samovar s = new Samovar();
        for (int v = 0; v <= 30; v++) {
            due("set(0, " + v + ")", s.set(0, v), v == 0 ? 16 : v - 1);
            due("at(23, 1)", s.at(23, 1), v);
        }
        for (int v = 0; v <= 40; v++) {
            due("set(1, " + v + ")", s.set(1, v), v == 0 ? 16 : v - 1);
            due("at(23, 2)", s.at(23, 2), v);
        }
        due("set(0, 30), the same", s.set(0, 30), 30);
    }

    private static void setRefused() {
        sentence("set: BAD");
        Samovar s = new Samovar();
        for (int v : new int[] {Integer.MIN_VALUE, -1, 31, 41, Integer.MAX_VALUE}) {
            due("set(0, " + v + ")", s.set(0, v), BAD);
        }
        for (int v : new int[] {Integer.MIN_VALUE, -1, 41, Integer.MAX_VALUE}) {
            due("set(1, " + v + ")", s.set(1, v), BAD);
        }
        for (int what : new int[] {Integer.MIN_VALUE, -1, 2, Integer.MAX_VALUE}) {
            due("set(" + what + ", 5)", s.set(what, 5), BAD);
        }
        due("count(5)", s.count(5), 16);
        due("count(6)", s.count(6), 16);
    }

    private static void eventHowMany() {
        sentence("An EVENT more: how many");
        Samovar s = new Samovar();
        for (int i = 1; i <= 8; i++) {
            due("event(0, " + i + ", 1)", s.event(0, i, 1), i);
            due("count(3)", s.count(3), i);
        }
        for (int i = 0; i <= 8; i++) {
            due("at(" + i + ", 1), those told before stay", s.at(i, 1), 16 + i);
        }
    }

    private static void eventRefused() {
        sentence("event: BAD; FULL");
        Samovar s = new Samovar();
        for (int i = 0; i < 8; i++) {
            s.event(2, 0, 0);
        }
        due("event(0, 0, 0), a ninth", s.event(0, 0, 0), FULL);
        due("event(3, 0, 0), a ninth", s.event(3, 0, 0), BAD);
        due("event(-1, 0, 0), a ninth", s.event(-1, 0, 0), BAD);
        due("event(0, 24, 0), a ninth", s.event(0, 24, 0), BAD);
        due("event(0, -1, 0), a ninth", s.event(0, -1, 0), BAD);
        due("event(0, 0, 10), a ninth", s.event(0, 0, 10), BAD);
        due("event(0, 0, -1), a ninth", s.event(0, 0, -1), BAD);
        due("count(3)", s.count(3), 8);
        due("back()", s.back(), 7);
        due("event(0, 0, 9), there is room again", s.event(0, 0, 9), 8);
        due("at(0, 1)", s.at(0, 1), 25);
    }

    private static void backHowMany() {
        sentence("The last EVENT is undone: how many are left. NOT: there is none");
        Samovar s = new Samovar();
        due("back() of none", s.back(), NOT);
        for (int i = 1; i <= 8; i++) {
            s.event(0, i, 1);
        }
        for (int left = 7; left >= 0; left--) {
            due("back()", s.back(), left);
            due("at(23, 1)", s.at(23, 1), 16 + left);
            due("at(" + (left + 1) + ", 1), the last is undone", s.at(left + 1, 1), 16 + left);
        }
        due("back() of none", s.back(), NOT);
        due("count(3)", s.count(3), 0);
        due("event(0, 0, 1) behind it", s.event(0, 0, 1), 1);
    }

    private static void readWhole() {
        sentence("EVENTS from a SHEET: its items, three for each, as many as are whole");
        int[] wants = {0, 0, 0, 1, 1, 1, 2, 2, 2, 3};
        for (int n = 0; n < wants.length; n++) {
            Samovar s = new Samovar();
            s.sheet(0, 2, n);
            for (int i = 0; i < n; i++) {
                s.put(0, 2, i, i % 3 == 1 ? 5 : i % 3 == 2 ? 4 : 0);
            }
            due("read(0) of " + n + " items", s.read(0), wants[n]);
            due("count(3)", s.count(3), wants[n]);
            due("at(4, 1)", s.at(4, 1), 16);
            due("at(5, 1)", s.at(5, 1), 16 + 4 * wants[n]);
        }
        // A kind, a minute, a number, in this order.
        Samovar s = new Samovar();
        sheetOf(s, 1, 0, 1, 2, 3);
        due("at(2, 2) ahead of it", s.at(2, 2), 16);
        s.read(1);
        due("at(1, 2)", s.at(1, 2), 16);
        due("at(2, 2)", s.at(2, 2), 19);
    }

    private static void readAsLongAsEachMayBe() {
        sentence("as long as each may be: how many");
        int[][] wrongs = {{3, 0, 0}, {-1, 0, 0}, {0, 24, 0}, {0, -1, 0}, {0, 0, 10}, {0, 0, -1}, {2, 0, 10}};
        for (int[] w : wrongs) {
            for (int ahead = 0; ahead <= 2; ahead++) {
                int[] items = {1, 0, 1, 1, 0, 1, 1, 0, 1, 1, 0, 1};
                System.arraycopy(w, 0, items, 3 * ahead, 3);
                Samovar s = new Samovar();
                sheetOf(s, 0, 2, items);
                String call = "read(0) with {" + w[0] + ", " + w[1] + ", " + w[2] + "} behind " + ahead;
                due(call, s.read(0), ahead);
                due("count(3) behind " + call, s.count(3), ahead);
                due("at(0, 2) behind " + call, s.at(0, 2), 16 + ahead);
            }
        }
        Samovar edges = new Samovar();
        sheetOf(edges, 0, 0, 0, 0, 0, 2, 23, 9);
        due("read(0) of the least and the greatest", edges.read(0), 2);
    }

    private static void readToEight() {
        sentence("EVENTS, 8 at most: read");
        for (int told = 0; told <= 8; told++) {
            Samovar s = new Samovar();
            for (int i = 0; i < told; i++) {
                s.event(2, 0, 0);
            }
            s.sheet(3, 1, 60);
            due("read(3) of sixty items behind " + told, s.read(3), 8 - told);
            due("count(3)", s.count(3), 8);
            due("event(0, 0, 0) behind it", s.event(0, 0, 0), FULL);
            due("read(3) once more", s.read(3), 0);
            due("count(3)", s.count(3), 8);
            due("count(8)", s.count(8), 0);
        }
        // A wrong one behind the eighth is not looked at.
        Samovar s = new Samovar();
        s.sheet(0, 0, 27);
        s.put(0, 0, 24, 9);
        due("read(0) of a wrong ninth", s.read(0), 8);
        due("count(3)", s.count(3), 8);
    }

    private static void readOfEachForm() {
        sentence("SHEETS are a row of a FORM: 0 bytes, 1 shorts, 2 ints: read");
        for (int form = 0; form <= 2; form++) {
            Samovar s = new Samovar();
            sheetOf(s, form, form, 0, 23, 9);
            due("read(" + form + ") of form " + form, s.read(form), 1);
            due("at(23, 1)", s.at(23, 1), 25);
            due("at(22, 1)", s.at(22, 1), 16);
            // 256 is 0 as a byte, 65536 as a short too; as an int it is no minute.
            Samovar cut = new Samovar();
            sheetOf(cut, 0, form, 1, form == 0 ? 256 : 65536, 2);
            due("read(0) of form " + form + " with a great minute", cut.read(0), form == 2 ? 0 : 1);
            due("at(0, 2)", cut.at(0, 2), form == 2 ? 16 : 18);
        }
    }

    private static void readRefused() {
        sentence("read: BAD; NULL");
        Samovar s = new Samovar();
        s.event(1, 0, 1);
        for (int sheet : new int[] {Integer.MIN_VALUE, -1, 4, Integer.MAX_VALUE}) {
            due("read(" + sheet + ")", s.read(sheet), BAD);
        }
        due("count(8)", s.count(8), 0);
        for (int sheet = 0; sheet <= 3; sheet++) {
            due("read(" + sheet + "), lost", s.read(sheet), NULL);
        }
        due("count(8)", s.count(8), 1);
        due("count(3)", s.count(3), 1);
        s.sheet(3, 0, 3);
        due("read(3)", s.read(3), 1);
        s.lose(3);
        due("read(3), lost again", s.read(3), NULL);
        due("count(3)", s.count(3), 2);
    }

    // ---- promises 12 to 19

    private static void atRefused() {
        sentence("HEAT (what = 0), WATER (1), BREW (2), the FIRE (3), whether it BOILED (4: 1, 0),"
            + " who was SERVED (5; NONE). BAD");
        Samovar s = hot("dw1", 4);
        int[] wants = {88, 3, 15, 24, 1, 0};
        for (int what = 0; what <= 5; what++) {
            due("at(3, " + what + ")", s.at(3, what), wants[what]);
            due("at(24, " + what + ")", s.at(24, what), BAD);
            due("at(-1, " + what + ")", s.at(-1, what), BAD);
        }
        due("at(3, 6)", s.at(3, 6), BAD);
        for (int far : FAR) {
            due("at(3, " + far + ")", s.at(3, far), BAD);
            due("at(" + far + ", 0)", s.at(far, 0), BAD);
        }
    }

    private static void isRefused() {
        sentence("What one is (what = 0: 0 to 4), how many GLASSES one has had (1). BAD");
        Samovar s = hot("dw1;ew1", 4);
        due("is(3, 0, 0)", s.is(3, 0, 0), 3);
        due("is(3, 0, 1)", s.is(3, 0, 1), 1);
        due("is(3, 0, 2)", s.is(3, 0, 2), BAD);
        due("is(3, 1, 0)", s.is(3, 1, 0), 0);
        due("is(3, 2, 0)", s.is(3, 2, 0), BAD);
        due("is(3, 8, 0)", s.is(3, 8, 0), BAD);
        due("is(24, 0, 0)", s.is(24, 0, 0), BAD);
        for (int far : FAR) {
            due("is(" + far + ", 0, 0)", s.is(far, 0, 0), BAD);
            due("is(3, " + far + ", 0)", s.is(3, far, 0), BAD);
            due("is(3, 0, " + far + ")", s.is(3, 0, far), BAD);
        }
        due("is(0, 0, 0) without guests", new Samovar().is(0, 0, 0), BAD);
    }

    private static void lineRefused() {
        sentence("How long the line is. BAD");
        Samovar s = Checks.told("", "aw1", 16, 16);
        due("line(0)", s.line(0), 1);
        due("line(23)", s.line(23), 0);
        due("line(24)", s.line(24), BAD);
        for (int far : FAR) {
            due("line(" + far + ")", s.line(far), BAD);
        }
    }

    private static void sumRefused() {
        sentence("SUM: GLASSES (what = 0), CONTENT (1), GONE (2), STEAMED (3), MINUTES it BOILED (4). BAD");
        // Guests 0 and 1 are content; guest 2 has one of two, and goes behind 13; guest 3 goes behind 5.
        Samovar s = hot("aw1;aw1;aw2;aw1", 4);
        int[] wants = {3, 2, 2, 1, 3};
        for (int what = 0; what <= 4; what++) {
            due("sum(" + what + ")", s.sum(what), wants[what]);
        }
        due("sum(5)", s.sum(5), BAD);
        for (int far : FAR) {
            due("sum(" + far + ")", s.sum(far), BAD);
        }
    }

    private static void hottestRefused() {
        sentence("HOTTEST: the MINUTE (what = 0), how great (1). BAD");
        Samovar s = hot("", 4);
        due("hottest(0)", s.hottest(0), 4);
        due("hottest(1)", s.hottest(1), 100);
        due("hottest(2)", s.hottest(2), BAD);
        for (int far : FAR) {
            due("hottest(" + far + ")", s.hottest(far), BAD);
        }
    }

    private static void waitedRefused() {
        sentence("WAITED. BAD");
        Samovar s = Checks.told("", "aw1;xw1", 16, 16);
        due("waited(0)", s.waited(0), 5);
        due("waited(1)", s.waited(1), 1);
        due("waited(2)", s.waited(2), BAD);
        due("waited(8)", s.waited(8), BAD);
        for (int far : FAR) {
            due("waited(" + far + ")", s.waited(far), BAD);
        }
        due("waited(0) without guests", new Samovar().waited(0), BAD);
    }
}
