/** Terms, of MINUTES, WATER, BREW, EVENTS, HEAT and the line: each sentence that names a boundary case. */
public final class EdgesOfEveningTest {
    private static final Checks checks = new Checks();
    private static final int HEAT = 0, WATER = 1, BREW = 2, FIRE = 3, BOILED = 4, SERVED = 5;
    private static final int NONE = -1, BAD = -2, FULL = -4;
    /** A fire of 81, of 82, of 51 in minute 0. */
    private static final String FUEL_81 = "ab3;ab3;ab3;ab3;ab3;ab3;ak3";
    private static final String FUEL_82 = "ab3;ab3;ab3;ab3;ab3;ab3;ab1;ak2";
    private static final String FUEL_51 = "ab3;ab3;ab3;ak3;ak2";
    /** A fire of 96 in minutes 0 to 4. */
    private static final String FUEL_96 = "ab3;ab3;ab3;ab3;ab3;ab3;ab3;ab3";

    public static void main(String[] args) {
        minutes();
        waterAtFirst();
        brewAtFirst();
        eightEvents();
        anEvent();
        waterToThirty();
        brewToForty();
        bootWhateverNumber();
        heatAtFirst();
        heatAtMost();
        heatAtLeast();
        eventsFirst();
        colderByGlasses();
        putOn();
        bootOnce();
        fifthOfWater();
        steamsAtHundred();
        steamsWithWater();
        boilsAtEighty();
        boilsWithWater();
        comeByNumbers();
        comeAgainByNumbers();
        drinksForSoLong();
        whoHasHadAll();
        oneIsServed();
        brewEnough();
        lessByOne();
        contentAtOnce();
        sixMinutes();
        stillInTheLine();
        oneBehindAnother();
        forGood();
        checks.end();
    }

    private static void sentence(String words) {
        checks.sentence(words);
    }

    private static void due(String call, long got, long want) {
        checks.due(call, got, want);
    }

    private static void row(Samovar s, int what, int from, int... wants) {
        for (int i = 0; i < wants.length; i++) {
            due("at(" + (from + i) + ", " + what + ")", s.at(from + i, what), wants[i]);
        }
    }

    private static void stay(Samovar s, int guest, int from, int... wants) {
        for (int i = 0; i < wants.length; i++) {
            due("is(" + (from + i) + ", " + guest + ", 0)", s.is(from + i, guest, 0), wants[i]);
        }
    }

    /** HEAT is 22, 44, 66, 88, 100 in minutes 0 to 4, then 2 less in each. */
    private static Samovar hot(String guests, int brew) {
        return Checks.told("ab3;ab3", guests, 4, brew);
    }

    private static void minutes() {
        sentence("MINUTES are 0 to 23");
        Samovar s = Checks.told("", "aw1;xw1", 16, 16);
        due("at(0, 1)", s.at(0, 1), 16);
        due("at(23, 1)", s.at(23, 1), 16);
        due("line(0)", s.line(0), 1);
        due("line(23)", s.line(23), 1);
        due("is(0, 0, 0)", s.is(0, 0, 0), 1);
        due("is(23, 1, 0)", s.is(23, 1, 0), 1);
        due("event(0, 0, 1)", s.event(0, 0, 1), 1);
        due("event(0, 23, 1)", s.event(0, 23, 1), 2);
        due("at(0, 1), behind the first event", s.at(0, 1), 17);
        due("at(22, 1), ahead of the last event", s.at(22, 1), 17);
        due("at(23, 1), behind the last event", s.at(23, 1), 18);
        due("seen(0, 0)", s.seen(0, 0), 1);
        due("seen(23, 0)", s.seen(23, 0), 2);
        for (int minute : new int[] {Integer.MIN_VALUE, -1, 24, Integer.MAX_VALUE}) {
            due("at(" + minute + ", 0)", s.at(minute, 0), BAD);
            due("is(" + minute + ", 0, 0)", s.is(minute, 0, 0), BAD);
            due("line(" + minute + ")", s.line(minute), BAD);
            due("event(0, " + minute + ", 0)", s.event(0, minute, 0), BAD);
            due("seen(" + minute + ", 0)", s.seen(minute, 0), BAD);
        }
    }

    private static void waterAtFirst() {
        sentence("WATER is 0 to 30 GLASSES at first (16)");
        Samovar s = new Samovar();
        due("count(5)", s.count(5), 16);
        due("set(0, 0)", s.set(0, 0), 16);
        due("at(0, 1)", s.at(0, 1), 0);
        due("set(0, 30)", s.set(0, 30), 0);
        due("at(0, 1)", s.at(0, 1), 30);
        for (int v : new int[] {Integer.MIN_VALUE, -1, 31, 40, Integer.MAX_VALUE}) {
            due("set(0, " + v + ")", s.set(0, v), BAD);
        }
        due("count(5)", s.count(5), 30);
    }

    private static void brewAtFirst() {
        sentence("BREW is 0 to 40 at first (16)");
        Samovar s = new Samovar();
        due("count(6)", s.count(6), 16);
        due("set(1, 0)", s.set(1, 0), 16);
        due("at(0, 2)", s.at(0, 2), 0);
        due("set(1, 31)", s.set(1, 31), 0);
        due("set(1, 40)", s.set(1, 40), 31);
        due("at(0, 2)", s.at(0, 2), 40);
        for (int v : new int[] {Integer.MIN_VALUE, -1, 41, Integer.MAX_VALUE}) {
            due("set(1, " + v + ")", s.set(1, v), BAD);
        }
        due("count(6)", s.count(6), 40);
    }

    private static void eightEvents() {
        sentence("EVENTS, 8 at most (0 on)");
        Samovar s = new Samovar();
        due("never() of none", s.never(), 0);
        for (int i = 1; i <= 8; i++) {
            due("event(1, 0, 1)", s.event(1, 0, 1), i);
            due("never() of " + i, s.never(), (1 << i) - 1);
        }
        due("event(1, 0, 1), a ninth", s.event(1, 0, 1), FULL);
        due("count(3)", s.count(3), 8);
        due("at(0, 2), by eight of them", s.at(0, 2), 24);
    }

    private static void anEvent() {
        sentence("a kind, a MINUTE, a number 0 to 9");
        Samovar s = new Samovar();
        for (int v : new int[] {Integer.MIN_VALUE, -1, 3, Integer.MAX_VALUE}) {
            due("event(" + v + ", 0, 0)", s.event(v, 0, 0), BAD);
        }
        for (int kind = 0; kind <= 2; kind++) {
            for (int v : new int[] {Integer.MIN_VALUE, -1, 10, Integer.MAX_VALUE}) {
                due("event(" + kind + ", 0, " + v + ")", s.event(kind, 0, v), BAD);
            }
        }
        due("count(3)", s.count(3), 0);
        for (int kind = 0; kind <= 2; kind++) {
            due("event(" + kind + ", 0, 0)", s.event(kind, 0, 0), 2 * kind + 1);
            due("event(" + kind + ", 23, 9)", s.event(kind, 23, 9), 2 * kind + 2);
        }
    }

    private static void waterToThirty() {
        sentence("0 so many GLASSES of cold WATER are filled in, to 30 at most");
        for (int water = 0; water <= 30; water++) {
            for (int number = 0; number <= 9; number++) {
                Samovar s = Checks.told("", "", water, 16);
                s.event(0, 7, number);
                due("at(6, 1) of " + water, s.at(6, WATER), water);
                due("at(7, 1) of " + water + " and " + number, s.at(7, WATER), Math.min(30, water + number));
                due("at(7, 2)", s.at(7, BREW), 16);
            }
        }
        Samovar s = Checks.told("", "", 25, 16);
        s.event(0, 7, 4);
        s.event(0, 7, 4);
        s.event(0, 8, 1);
        row(s, WATER, 6, 25, 30, 30);
    }

    private static void brewToForty() {
        sentence("1 so much fresh BREW, to 40 at most");
        for (int brew = 0; brew <= 40; brew++) {
            for (int number = 0; number <= 9; number++) {
                Samovar s = Checks.told("", "", 16, brew);
                s.event(1, 7, number);
                due("at(6, 2) of " + brew, s.at(6, BREW), brew);
                due("at(7, 2) of " + brew + " and " + number, s.at(7, BREW), Math.min(40, brew + number));
                due("at(7, 1)", s.at(7, WATER), 16);
            }
        }
        Samovar s = Checks.told("", "", 16, 35);
        s.event(1, 7, 4);
        s.event(1, 7, 4);
        s.event(1, 8, 1);
        row(s, BREW, 6, 35, 40, 40);
    }

    private static void bootWhateverNumber() {
        sentence("2 the BOOT, in that MINUTE (whatever number is told)");
        for (int number = 0; number <= 9; number++) {
            Samovar s = Checks.told("ac3", "", 16, 16);
            s.event(2, 3, number);
            row(s, FIRE, 2, 9, 18, 9);
            row(s, WATER, 3, 16);
            row(s, BREW, 3, 16);
        }
        Samovar edges = Checks.told("ac3;xc3", "", 16, 16);
        edges.event(2, 0, 0);
        edges.event(2, 23, 0);
        row(edges, FIRE, 0, 18, 9);
        row(edges, FIRE, 22, 0, 18);
    }

    private static void heatAtFirst() {
        sentence("HEAT is 0 at first");
        row(Checks.told("ak1", "", 4, 16), HEAT, 0, 1, 2, 3);
        row(Checks.told("", "", 0, 16), HEAT, 0, 0, 0, 0);
    }

    private static void heatAtMost() {
        sentence("HEAT is 100 at most");
        // 94 behind minute 0; what is above 100 is not kept for the minutes without a fire.
        row(Checks.told(FUEL_96, "", 0, 16), HEAT, 0, 94, 100, 100, 100, 100, 98, 96);
        // A fire of 102: 100 at once, and 99 by a fifth of 5.
        Samovar s = Checks.told(FUEL_51, "", 0, 16);
        s.event(2, 0, 0);
        row(s, HEAT, 0, 100);
        s.set(0, 5);
        row(s, HEAT, 0, 99);
        Samovar most = Checks.told(FUEL_96, "", 0, 16);
        most.event(2, 0, 0);
        row(most, FIRE, 0, 192);
        row(most, HEAT, 0, 100);
        due("hottest(0)", most.hottest(0), 0);
        due("hottest(1)", most.hottest(1), 100);
    }

    private static void heatAtLeast() {
        sentence("HEAT is 0 at least");
        // Of 30 glasses it is 8 less in each minute: cones of 3 come to nothing, those of 9 to 1 in each.
        row(Checks.told("ak1;dk3", "", 30, 16), HEAT, 0, 0, 0, 0, 1, 2, 3, 0, 0);
        // 4, 8, 12; then 36 less is 0, and 9 less 2 and a fifth of 13 is 5.
        Samovar s = Checks.told("ak2;dk3", "", 4, 16);
        s.event(0, 3, 9);
        row(s, HEAT, 0, 4, 8, 12, 5);
        // 12 less 4 by 3 is just 0, and 12 less 4 by 2 is 4.
        s.back();
        s.event(0, 3, 3);
        row(s, HEAT, 3, 9 - 2 - 1);
        s.back();
        s.event(0, 3, 2);
        row(s, HEAT, 3, 4 + 9 - 2 - 1);
        s.back();
        // 0 behind each of two.
        s.event(0, 3, 2);
        s.event(0, 3, 2);
        row(s, HEAT, 3, 9 - 2 - 1);
    }

    private static void eventsFirst() {
        sentence("In a MINUTE first its EVENTS are done");
        // Brew of this minute is there for who is served in it.
        Samovar brew = hot("ad1", 0);
        brew.event(1, 3, 3);
        row(brew, SERVED, 2, NONE, 0);
        row(brew, BREW, 2, 0, 0);
        // So is water: 66 less 4, and 22 more; and its fifth is of what there is then.
        Samovar water = Checks.told("ab3;ab3", "aw1", 0, 16);
        water.event(0, 3, 1);
        row(water, HEAT, 2, 66, 84);
        row(water, BOILED, 2, 0, 1);
        row(water, SERVED, 2, NONE, 0);
        Samovar fifth = hot("", 16);
        fifth.event(0, 0, 1);
        row(fifth, HEAT, 0, 24 - 2 - 1);
    }

    private static void colderByGlasses() {
        sentence("HEAT is less by 4 for each GLASS that is filled in");
        for (int number = 0; number <= 9; number++) {
            Samovar s = hot("", 16);
            s.event(0, 3, number);
            row(s, HEAT, 2, 66, 66 - 4 * number + 24 - 2 - (4 + number) / 5);
        }
        // Of 28, 29, 30 glasses there is room for 2, 1, none: 17, 34, 51 (of 30: 16, 32, 48).
        for (int water = 28; water <= 30; water++) {
            Samovar s = Checks.told("ab3;ab3", "", water, 16);
            int before = water == 30 ? 48 : 51;
            s.event(0, 3, 9);
            row(s, HEAT, 2, before, before - 4 * (30 - water) + 24 - 2 - 6);
            s.event(0, 3, 9);
            row(s, HEAT, 2, before, before - 4 * (30 - water) + 24 - 2 - 6);
        }
        // Fresh brew and the boot make nothing colder.
        Samovar others = hot("", 16);
        others.event(1, 3, 9);
        others.event(2, 5, 9);
        row(others, HEAT, 2, 66, 88, 100, 98);
    }

    private static void putOn() {
        sentence("what all PIECES give that burn (from the MINUTE on in which they are put on)");
        row(Checks.told("ck1;db1", "", 16, 16), FIRE, 0, 0, 0, 3, 7, 7, 4, 4, 4, 0);
        row(Checks.told(FUEL_96, "", 16, 16), FIRE, 0, 96, 96, 96, 96, 96, 0);
        row(Checks.told("", "", 16, 16), FIRE, 0, 0, 0);
    }

    private static void bootOnce() {
        sentence("twice that by the BOOT (once, however often)");
        Samovar s = Checks.told("ac1", "", 16, 16);
        for (int often = 1; often <= 8; often++) {
            s.event(2, 4, often);
            row(s, FIRE, 3, 3, 6, 3);
        }
        Samovar none = new Samovar();
        none.event(2, 4, 9);
        row(none, FIRE, 4, 0);
    }

    private static void fifthOfWater() {
        sentence("less by 2 and by a fifth of WATER, cut");
        for (int water = 0; water <= 30; water++) {
            Samovar s = Checks.told("ab3;ab3", "", water, 16);
            row(s, HEAT, 0, 22 - water / 5, 2 * (22 - water / 5));
        }
        row(Checks.told("ab3;ab3", "", 4, 16), HEAT, 0, 22);
        row(Checks.told("ab3;ab3", "", 5, 16), HEAT, 0, 21);
        row(Checks.told("ab3;ab3", "", 29, 16), HEAT, 0, 17);
        row(Checks.told("ab3;ab3", "", 30, 16), HEAT, 0, 16);
    }

    private static void steamsAtHundred() {
        sentence("If it is 100 then, and there is WATER, one GLASS of it STEAMS away: 100");
        // By a fire of 102 HEAT is 100 of 4 glasses, 99 of 5.
        Samovar s = Checks.told(FUEL_51, "", 4, 16);
        s.event(2, 0, 0);
        row(s, HEAT, 0, 100);
        row(s, WATER, 0, 3);
        s.set(0, 5);
        row(s, HEAT, 0, 99);
        row(s, WATER, 0, 5);
        // By 20 in each minute it is 100 in minute 4 just so, and then less.
        Samovar once = Checks.told("ab3;ab3", "", 10, 16);
        row(once, HEAT, 3, 80, 100, 97);
        row(once, WATER, 3, 10, 9, 9);
        due("sum(3)", once.sum(3), 1);
    }

    private static void steamsWithWater() {
        sentence("If it is 100 then, and there is WATER, one GLASS of it STEAMS away: WATER");
        Samovar s = Checks.told(FUEL_96, "", 0, 16);
        row(s, WATER, 0, 0, 0, 0, 0, 0);
        due("sum(3) of none", s.sum(3), 0);
        s.set(0, 1);
        row(s, WATER, 0, 1, 0, 0, 0, 0);
        due("sum(3) of one", s.sum(3), 1);
        s.set(0, 4);
        row(s, WATER, 0, 4, 3, 2, 1, 0, 0);
        due("sum(3) of four", s.sum(3), 4);
        s.set(0, 5);
        row(s, WATER, 0, 5, 4, 3, 2, 1, 1);
        due("sum(3) of five", s.sum(3), 4);
    }

    private static void boilsAtEighty() {
        sentence("It BOILS, if HEAT is 80 at least, and there is WATER: 80");
        Samovar less = Checks.told(FUEL_81, "aw1", 4, 16);
        row(less, HEAT, 0, 79);
        row(less, BOILED, 0, 0);
        row(less, SERVED, 0, NONE);
        Samovar enough = Checks.told(FUEL_82, "aw1", 4, 16);
        row(enough, HEAT, 0, 80);
        row(enough, BOILED, 0, 1);
        row(enough, SERVED, 0, 0);
        // 100 in minute 4, then 2 less: 80 in minute 14, 78 in 15.
        Samovar falling = hot("", 16);
        row(falling, HEAT, 13, 82, 80, 78);
        row(falling, BOILED, 13, 1, 1, 0);
    }

    private static void boilsWithWater() {
        sentence("It BOILS, if HEAT is 80 at least, and there is WATER: WATER");
        Samovar s = Checks.told(FUEL_96, "", 0, 16);
        row(s, HEAT, 0, 94, 100);
        row(s, BOILED, 0, 0, 0);
        // The one glass steams away in minute 1 ahead of that.
        s.set(0, 1);
        row(s, BOILED, 0, 1, 0);
        s.set(0, 2);
        row(s, BOILED, 0, 1, 1, 0);
        row(s, WATER, 0, 2, 1, 0);
    }

    private static void comeByNumbers() {
        sentence("those whose MINUTE it is come to the end of the line, by numbers");
        row(hot("dw1;dw1;dw1", 16), SERVED, 2, NONE, 0, 1, 2);
        row(hot("dw1;cw1;dw1", 16), SERVED, 2, NONE, 1, 0, 2);
        row(hot("dw1;cw1;bw1", 16), SERVED, 2, NONE, 2, 1, 0);
        due("line(3) of three", hot("dw1;dw1;dw1", 16).line(3), 2);
        due("line(23), of those of minute 23", hot("xw1;xw1;xw1;xw1;xw1;xw1;xw1;xw1", 16).line(23), 8);
        due("line(0), of those of minute 0", hot("aw1;aw1;aw1;aw1;aw1;aw1;aw1;aw1", 16).line(0), 8);
    }

    private static void comeAgainByNumbers() {
        sentence("and so, by numbers, behind these, do those who have drunk what they had and have not had all");
        // Guest 0 is back in 6, as guest 1 comes.
        row(Checks.hotAllEvening("dw2;gw1", 16), SERVED, 3, 0, NONE, NONE, 1, 0);
        // Guest 1, served in 3, and guest 0, served in 4, are back in 7 both.
        row(Checks.hotAllEvening("ew2;dd2", 16), SERVED, 3, 1, 0, NONE, NONE, 0, 1);
        row(Checks.hotAllEvening("dd2;ew2", 16), SERVED, 3, 0, 1, NONE, NONE, 0, 1);
        // Guests 1 and 2 come as both are back: these are last.
        row(Checks.hotAllEvening("ew2;hw1;dd2;hw1", 16), SERVED, 3, 2, 0, NONE, NONE, 1, 3, 0, 2);
    }

    private static void drinksForSoLong() {
        sentence("a weak one drinks for 3 MINUTES, a dark one for 4"
            + " (served in MINUTE 5, a weak one is in the line again in MINUTE 8)");
        // Brew for one glass alone, so that one is seen in the line.
        stay(Checks.hotAllEvening("fw2", 1), 0, 4, 0, 2, 2, 2, 1);
        stay(Checks.hotAllEvening("fd2", 3), 0, 4, 0, 2, 2, 2, 2, 1);
        // Brew for both: served in the minute in which one is back.
        row(Checks.hotAllEvening("fw2", 2), SERVED, 5, 0, NONE, NONE, 0, NONE);
        row(Checks.hotAllEvening("fd2", 6), SERVED, 5, 0, NONE, NONE, NONE, 0, NONE);
        // Back in minute 23, or still at it.
        stay(Checks.hotAllEvening("uw2", 1), 0, 22, 2, 1);
        stay(Checks.hotAllEvening("ud2", 3), 0, 22, 2, 2);
    }

    private static void whoHasHadAll() {
        sentence("those who have drunk what they had and have not had all");
        Samovar s = Checks.hotAllEvening("fw1;fd1", 16);
        stay(s, 0, 5, 3, 3, 3, 3, 3);
        stay(s, 1, 5, 1, 3, 3, 3, 3, 3);
        due("line(8)", s.line(8), 0);
        due("line(10)", s.line(10), 0);
        due("sum(0)", s.sum(0), 2);
    }

    private static void oneIsServed() {
        sentence("If it BOILS, one is SERVED");
        // Six of eight, in minutes 3 to 8; the last two go behind minute 8, their sixth.
        Samovar s = Checks.hotAllEvening("dw1;dw1;dw1;dw1;dw1;dw1;dw1;dw1", 40);
        row(s, SERVED, 2, NONE, 0, 1, 2, 3, 4, 5, NONE);
        for (int minute = 3; minute <= 7; minute++) {
            due("line(" + minute + ")", s.line(minute), 10 - minute);
        }
        due("line(8)", s.line(8), 0);
        due("sum(0)", s.sum(0), 6);
        due("sum(2)", s.sum(2), 2);
        // It boils in 3 to 5, with 4 glasses, of which one steams away, and nobody is served ahead or behind.
        row(hot("aw1;aw1;aw1;aw1", 16), SERVED, 0, NONE, NONE, NONE, 0, 1, 2, NONE);
        row(hot("", 16), SERVED, 0, NONE, NONE, NONE, NONE, NONE);
    }

    private static void brewEnough() {
        sentence("the first one of the line for whom there is BREW enough (1 for a weak one, 3 for a dark one)");
        row(Checks.hotAllEvening("dw1", 0), SERVED, 3, NONE, NONE);
        row(Checks.hotAllEvening("dw1", 1), SERVED, 3, 0, NONE);
        row(Checks.hotAllEvening("dd1", 2), SERVED, 3, NONE, NONE);
        row(Checks.hotAllEvening("dd1", 3), SERVED, 3, 0, NONE);
        row(Checks.hotAllEvening("dd1;dw1", 2), SERVED, 3, 1, NONE);
        row(Checks.hotAllEvening("dd1;dw1", 3), SERVED, 3, 0, NONE);
        row(Checks.hotAllEvening("dd1;dw1;dd1;dw1", 5), SERVED, 3, 0, 1, 3, NONE);
        row(Checks.hotAllEvening("dw1;dd1;dw1", 3), SERVED, 3, 0, 2, NONE);
    }

    private static void lessByOne() {
        sentence("that much BREW and one GLASS of WATER less");
        Samovar nobody = Checks.hotAllEvening("", 16);
        row(nobody, WATER, 2, 28, 27, 26);
        Samovar weak = Checks.hotAllEvening("dw1", 1);
        row(weak, WATER, 2, 28, 26, 25);
        row(weak, BREW, 2, 1, 0, 0);
        Samovar dark = Checks.hotAllEvening("dd1", 3);
        row(dark, WATER, 2, 28, 26, 25);
        row(dark, BREW, 2, 3, 0, 0);
    }

    private static void contentAtOnce() {
        sentence("Who has had all is CONTENT as soon as the last one is SERVED");
        stay(Checks.hotAllEvening("dw1", 16), 0, 2, 0, 3, 3);
        stay(Checks.hotAllEvening("dw2", 16), 0, 2, 0, 2, 2, 2, 3, 3);
        stay(Checks.hotAllEvening("dd4", 16), 0, 14, 2, 3, 3);
        stay(Checks.hotAllEvening("xw1", 16), 0, 22, 0, 3);
        due("sum(1) of minute 23", Checks.hotAllEvening("xw1", 16).sum(1), 1);
        stay(Checks.hotAllEvening("xw2", 16), 0, 22, 0, 2);
    }

    private static void sixMinutes() {
        sentence("Then who has WAITED for six MINUTES, one behind another, in the line (this one too)");
        stay(Checks.told("", "aw1", 16, 16), 0, 0, 1, 1, 1, 1, 1, 4, 4);
        stay(Checks.told("", "sw1", 16, 16), 0, 17, 0, 1, 1, 1, 1, 1, 4);
        stay(Checks.told("", "tw1", 16, 16), 0, 18, 0, 1, 1, 1, 1, 1);
        due("line(4)", Checks.told("", "aw1", 16, 16).line(4), 1);
        due("line(5)", Checks.told("", "aw1", 16, 16).line(5), 0);
        // Without brew as without a fire.
        stay(Checks.hotAllEvening("ad1", 2), 0, 4, 1, 4);
    }

    private static void stillInTheLine() {
        sentence("and is still in it, GOES");
        // It boils in 9 first: guest 0 went behind 8, guest 1 is served in the sixth minute.
        Samovar s = Checks.told("gb3;gb3", "dw1;ew1", 4, 16);
        stay(s, 0, 7, 1, 4, 4);
        stay(s, 1, 8, 1, 3, 3);
        row(s, SERVED, 8, NONE, 1, NONE);
        // One who is served in the sixth minute and has not had all does not go either.
        stay(Checks.told("gb3;gb3", "ew2", 4, 16), 0, 8, 1, 2, 2, 2, 3);
    }

    private static void oneBehindAnother() {
        sentence("for six MINUTES, one behind another");
        // In the line in 0 to 2 and from 6 on: the sixth one behind another is 11, whatever was ahead of it.
        Samovar s = hot("aw2", 1);
        stay(s, 0, 0, 1, 1, 1, 2, 2, 2, 1, 1, 1, 1, 1, 4);
        due("waited(0)", s.waited(0), 8);
    }

    private static void forGood() {
        sentence("GOES, for good");
        // Gone behind 5; it boils from 9 on, and nobody is there.
        Samovar s = Checks.told("gb3;gb3", "aw1", 4, 16);
        row(s, BOILED, 8, 0, 1, 1);
        row(s, SERVED, 8, NONE, NONE, NONE);
        stay(s, 0, 5, 4);
        stay(s, 0, 9, 4);
        stay(s, 0, 23, 4);
        due("is(23, 0, 1)", s.is(23, 0, 1), 0);
        // One who had a glass keeps it.
        due("is(23, 0, 1) of one who had one", hot("aw2", 1).is(23, 0, 1), 1);
        due("sum(0)", hot("aw2", 1).sum(0), 1);
    }
}
