/** Promises 12 to 19: the evening, minute by minute, reckoned by hand. */
public final class MinutesTest {
    private static final Checks checks = new Checks();
    private static final int HEAT = 0, WATER = 1, BREW = 2, FIRE = 3, BOILED = 4, SERVED = 5;

    public static void main(String[] args) {
        anEvening();
        theirStay();
        theLine();
        sums();
        firstAndHottest();
        waitedAndThirst();
        fuelBurns();
        coldWater();
        freshBrew();
        boot();
        steam();
        fifthOfWater();
        theLineByBrew();
        theOrderOfTheLine();
        drinking();
        patience();
        eightGuests();
        wrongNumbers();
        checks.end();
    }

    private static void due(int promise, String call, long got, long want) {
        checks.due(promise, call, got, want);
    }

    private static void row(Samovar s, int what, int from, int... wants) {
        for (int i = 0; i < wants.length; i++) {
            due(12, "at(" + (from + i) + ", " + what + ")", s.at(from + i, what), wants[i]);
        }
    }

    private static void stay(Samovar s, int guest, int what, int... wants) {
        for (int minute = 0; minute < wants.length; minute++) {
            due(13, "is(" + minute + ", " + guest + ", " + what + ")", s.is(minute, guest, what), wants[minute]);
        }
    }

    /** A fire of 24 for five minutes; guest 0 is served in 3, guest 1 in 4, guest 2 in 5; then the water is gone. */
    private static Samovar evening() {
        return Checks.told("ab3;ab3", "aw1;bd2;dw2", 4, 16);
    }

    private static void anEvening() {
        Samovar s = evening();
        row(s, HEAT, 0, 22, 44, 66, 88, 100, 98, 96, 94, 92, 90, 88, 86, 84, 82, 80, 78, 76, 74, 72, 70, 68, 66, 64, 62);
        row(s, WATER, 0, 4, 4, 4, 3, 1, 0, 0, 0, 0, 0, 0, 0, 0, 0, 0, 0, 0, 0, 0, 0, 0, 0, 0, 0);
        row(s, BREW, 0, 16, 16, 16, 15, 12, 11, 11, 11);
        row(s, FIRE, 0, 24, 24, 24, 24, 24, 0, 0);
        row(s, BOILED, 0, 0, 0, 0, 1, 1, 1, 0, 0, 0);
        row(s, SERVED, 0, -1, -1, -1, 0, 1, 2, -1, -1);
    }

    private static void theirStay() {
        Samovar s = evening();
        stay(s, 0, 0, 1, 1, 1, 3, 3, 3, 3, 3, 3, 3, 3, 3, 3, 3, 3);
        stay(s, 1, 0, 0, 1, 1, 1, 2, 2, 2, 2, 1, 1, 1, 1, 1, 4, 4);
        stay(s, 2, 0, 0, 0, 0, 1, 1, 2, 2, 2, 1, 1, 1, 1, 1, 4, 4);
        stay(s, 0, 1, 0, 0, 0, 1, 1, 1);
        stay(s, 1, 1, 0, 0, 0, 0, 1, 1);
        stay(s, 2, 1, 0, 0, 0, 0, 0, 1);
    }

    private static void theLine() {
        Samovar s = evening();
        int[] wants = {1, 2, 2, 2, 1, 0, 0, 0, 2, 2, 2, 2, 2, 0, 0};
        for (int minute = 0; minute < wants.length; minute++) {
            due(14, "line(" + minute + ")", s.line(minute), wants[minute]);
        }
        due(14, "line(23)", s.line(23), 0);
        Checks.retell(s, 1, "ww1;xw1");
        due(14, "line(23)", s.line(23), 2);
        s.set(1, 5);
        due(14, "line(22), of another evening", s.line(22), 1);
    }

    private static void sums() {
        Samovar s = evening();
        int[] wants = {3, 1, 2, 1, 3};
        for (int what = 0; what < wants.length; what++) {
            due(15, "sum(" + what + ")", s.sum(what), wants[what]);
        }
        Samovar alone = Checks.told("ab3;ab3", "", 4, 16);
        int[] without = {0, 0, 0, 1, 12};
        for (int what = 0; what < without.length; what++) {
            due(15, "sum(" + what + ") without guests", alone.sum(what), without[what]);
        }
    }

    private static void firstAndHottest() {
        Samovar s = evening();
        due(16, "first()", s.first(), 3);
        due(17, "hottest(0)", s.hottest(0), 4);
        due(17, "hottest(1)", s.hottest(1), 100);
        s.set(0, 0);
        due(16, "first() without water", s.first(), -1);
        due(17, "hottest(1) without water", s.hottest(1), 100);
        Checks.retell(s, 0, "xk3");
        s.set(0, 4);
        due(16, "first()", s.first(), -1);
        due(17, "hottest(0)", s.hottest(0), 23);
        due(17, "hottest(1)", s.hottest(1), 7);
        s.wipe(0);
        due(17, "hottest(0) without fuel", s.hottest(0), 0);
        due(17, "hottest(1) without fuel", s.hottest(1), 0);
        // 22, 44, 66, 88, 100, and by charcoal of 6 it stays so: the first one counts.
        Checks.tell(s, 0, "ab3;ab3;fc2");
        due(17, "hottest(0) of like ones", s.hottest(0), 4);
        // 34, then 92.
        Checks.retell(s, 0, "wb3;wb3;wb3;xb3;xb3");
        due(16, "first()", s.first(), 23);
        // 94 at once, then 100.
        Checks.retell(s, 0, "ab3;ab3;ab3;ab3;ab3;ab3;ab3;ab3");
        due(16, "first()", s.first(), 0);
        due(17, "hottest(0)", s.hottest(0), 1);
        due(17, "hottest(1)", s.hottest(1), 100);
    }

    private static void waitedAndThirst() {
        Samovar s = evening();
        due(18, "waited(0)", s.waited(0), 3);
        due(18, "waited(1)", s.waited(1), 8);
        due(18, "waited(2)", s.waited(2), 7);
        due(19, "thirst()", s.thirst(), 6);
        s.event(0, 6, 9);
        due(19, "thirst() with water from minute 6 on", s.thirst(), 6);
        s.event(2, 0, 0);
        s.set(0, 30);
        Checks.retell(s, 0, "ab3;ab3;ab3;ab3;fc3;fc3");
        due(19, "thirst() with enough of all", s.thirst(), 0);
        due(15, "sum(1) with enough of all", s.sum(1), 3);
        s.wipe(1);
        due(19, "thirst() without guests", s.thirst(), 0);
    }

    private static void fuelBurns() {
        Samovar s = Checks.told("ak1", "", 16, 16);
        row(s, FIRE, 0, 3, 3, 3, 0, 0, 0, 0, 0, 0, 0, 0, 0);
        Checks.retell(s, 0, "bb2");
        row(s, FIRE, 0, 0, 8, 8, 8, 8, 8, 0, 0, 0, 0, 0, 0);
        Checks.retell(s, 0, "cc3");
        row(s, FIRE, 0, 0, 0, 9, 9, 9, 9, 9, 9, 9, 9, 9, 0);
        Checks.retell(s, 0, "ak3;bb3;cc2");
        row(s, FIRE, 0, 9, 21, 27, 18, 18, 18, 6, 6, 6, 6, 6, 0);
        Checks.retell(s, 0, "xc3");
        row(s, FIRE, 22, 0, 9);
        Checks.retell(s, 0, "xc3;");
        row(s, FIRE, 22, 0, 0);
    }

    private static void coldWater() {
        // 22, 44, 66 - 4 * 3 = 54 and 24 less 2 and a fifth of 7.
        Samovar s = Checks.told("ab3;ab3", "", 4, 16);
        s.event(0, 3, 3);
        row(s, HEAT, 2, 66, 75);
        row(s, WATER, 2, 4, 7);
        // No more than 30 come in, and only those that do make it colder.
        s.back();
        s.set(0, 27);
        s.event(0, 3, 9);
        row(s, HEAT, 0, 17, 34, 51, 51 - 12 + 24 - 2 - 6);
        row(s, WATER, 3, 30);
        // Not below 0, ahead of the fire.
        s.back();
        s.set(0, 4);
        s.event(0, 1, 9);
        row(s, HEAT, 0, 22, 24 - 2 - 2);
        // Two of them in one minute, and one of nothing.
        s.event(0, 1, 0);
        s.event(0, 1, 2);
        row(s, WATER, 0, 4, 15);
        row(s, HEAT, 0, 22, 24 - 2 - 3);
    }

    private static void freshBrew() {
        Samovar s = Checks.told("", "", 4, 30);
        s.event(1, 2, 6);
        s.event(1, 2, 3);
        s.event(1, 5, 9);
        row(s, BREW, 0, 30, 30, 39, 39, 39, 40, 40);
        row(s, HEAT, 0, 0, 0, 0);
    }

    private static void boot() {
        Samovar s = Checks.told("ab3;bk1", "", 4, 16);
        s.event(2, 1, 0);
        row(s, FIRE, 0, 12, 30, 15, 15, 12, 0);
        row(s, HEAT, 0, 10, 38, 51);
        s.event(2, 1, 9);
        row(s, FIRE, 0, 12, 30, 15);
        s.event(2, 7, 3);
        row(s, FIRE, 7, 0);
    }

    private static void steam() {
        // 100 in minute 4 and, by charcoal, in 5 to 13: a glass in each, as long as there is water.
        Samovar s = Checks.told("ab3;ab3;fc3", "", 4, 16);
        row(s, WATER, 3, 4, 3, 2, 1, 0, 0);
        row(s, BOILED, 3, 1, 1, 1, 1, 0, 0);
        due(15, "sum(3)", s.sum(3), 4);
        due(15, "sum(4)", s.sum(4), 4);
        // With one glass it boils in minute 3, by 88; what steams away in 4 boils no more.
        s.set(0, 1);
        row(s, BOILED, 2, 0, 1, 0);
        row(s, WATER, 3, 1, 0);
        due(15, "sum(3) of one glass", s.sum(3), 1);
        // 80 is enough, 79 is not: 20 in each minute, then 4 or 3 less.
        Checks.retell(s, 0, "ab3;ab3");
        s.set(0, 14);
        row(s, HEAT, 3, 80);
        row(s, BOILED, 2, 0, 1);
        s.set(0, 15);
        row(s, HEAT, 3, 76);
        row(s, BOILED, 3, 0);
    }

    private static void fifthOfWater() {
        int[][] waters = {{0, 22}, {4, 22}, {5, 21}, {9, 21}, {10, 20}, {29, 17}, {30, 16}};
        for (int[] water : waters) {
            Samovar s = Checks.told("ab3;ab3", "", water[0], 16);
            row(s, HEAT, 0, water[1], 2 * water[1]);
        }
    }

    private static void theLineByBrew() {
        // Guest 0 is dark, and there is brew for a weak one alone: guest 1 is served past 0.
        Samovar s = Checks.told("ab3;ab3", "ad1;bw1", 4, 2);
        row(s, SERVED, 2, -1, 1, -1, -1);
        row(s, BREW, 3, 1, 1);
        row(s, WATER, 3, 3, 2);
        s.event(1, 4, 2);
        row(s, SERVED, 3, 1, 0);
        row(s, BREW, 3, 1, 0);
        due(13, "is(4, 0, 0)", s.is(4, 0, 0), 3);
    }

    private static void theOrderOfTheLine() {
        // In minute 6 guest 0 is back, and guest 1 comes: who comes is ahead of who is back.
        Samovar s = Checks.told("ab3;ab3;fc3", "dw2;gw1", 30, 16);
        s.set(0, 14);
        row(s, SERVED, 3, 0, -1, -1, 1, 0, -1);
        // In one minute, by numbers.
        Checks.retell(s, 1, "dw1;dd1;dw1");
        row(s, SERVED, 3, 0, 1, 2, -1);
        // Who came earlier is first, whatever the number.
        Checks.retell(s, 1, "dw1;cw1;bw1");
        row(s, SERVED, 3, 2, 1, 0, -1);
    }

    private static void drinking() {
        // Served in 3: a weak one is in the line again in 6, a dark one, served in 4, in 8.
        Samovar s = Checks.told("ab3;ab3;fc3", "dw4;dd2", 14, 40);
        s.event(0, 10, 2);
        stay(s, 0, 0, 0, 0, 0, 2, 2, 2, 2, 2, 2, 2);
        stay(s, 0, 1, 0, 0, 0, 1, 1, 1, 2, 2, 2, 3);
        stay(s, 1, 0, 0, 0, 0, 1, 2, 2, 2, 2, 3, 3);
        stay(s, 1, 1, 0, 0, 0, 0, 1, 1, 1, 1, 2, 2);
        row(s, SERVED, 3, 0, 1, -1, 0, -1, 1, 0, -1, -1, 0, -1);
        due(13, "is(12, 0, 0)", s.is(12, 0, 0), 3);
        due(13, "is(12, 0, 1)", s.is(12, 0, 1), 4);
    }

    private static void patience() {
        Samovar s = Checks.told("", "sw1;tw1", 4, 16);
        due(13, "is(22, 0, 0)", s.is(22, 0, 0), 1);
        due(13, "is(23, 0, 0)", s.is(23, 0, 0), 4);
        due(13, "is(23, 1, 0)", s.is(23, 1, 0), 1);
        due(15, "sum(2)", s.sum(2), 1);
        due(18, "waited(0)", s.waited(0), 5);
        due(18, "waited(1)", s.waited(1), 5);
        // Served in the sixth minute, one does not go: it boils from minute 9 on.
        Checks.tell(s, 0, "gb3;gb3");
        Checks.retell(s, 1, "dw1;ew1");
        due(13, "is(8, 0, 0)", s.is(8, 0, 0), 4);
        due(13, "is(9, 1, 0)", s.is(9, 1, 0), 3);
    }

    /** Nobody boils: who comes in minute m waits five minutes, and is gone behind m + 5. */
    private static void eightGuests() {
        Samovar s = Checks.told("", "aw1;cd2;ew3;gd4;iw1;kd2;mw3;xd4", 16, 16);
        for (int g = 0; g < 8; g++) {
            int minute = s.guest(g, 0);
            due(13, "is(" + minute + ", " + g + ", 0)", s.is(minute, g, 0), 1);
            due(13, "is(23, " + g + ", 0)", s.is(23, g, 0), g == 7 ? 1 : 4);
            due(13, "is(23, " + g + ", 1)", s.is(23, g, 1), 0);
            due(18, "waited(" + g + ")", s.waited(g), g == 7 ? 1 : 5);
        }
        due(19, "thirst()", s.thirst(), 255);
        due(15, "sum(2)", s.sum(2), 7);
        Checks.tell(s, 0, "vb3;vb3;vb3;vb3;vb3;vb3");
        due(12, "at(23, 5)", s.at(23, 5), 7);
        due(13, "is(23, 7, 0)", s.is(23, 7, 0), 2);
        due(13, "is(23, 7, 1)", s.is(23, 7, 1), 1);
    }

    private static void wrongNumbers() {
        Samovar s = evening();
        int[] minutes = {-1, 24, 1 << 31, -1 >>> 1};
        for (int minute : minutes) {
            due(12, "at(" + minute + ", 0)", s.at(minute, 0), -2);
            due(13, "is(" + minute + ", 0, 0)", s.is(minute, 0, 0), -2);
            due(14, "line(" + minute + ")", s.line(minute), -2);
        }
        due(12, "at(0, -1)", s.at(0, -1), -2);
        due(12, "at(0, 6)", s.at(0, 6), -2);
        due(13, "is(0, -1, 0)", s.is(0, -1, 0), -2);
        due(13, "is(0, 3, 0)", s.is(0, 3, 0), -2);
        due(13, "is(0, 0, -1)", s.is(0, 0, -1), -2);
        due(13, "is(0, 0, 2)", s.is(0, 0, 2), -2);
        due(15, "sum(-1)", s.sum(-1), -2);
        due(15, "sum(5)", s.sum(5), -2);
        due(17, "hottest(-1)", s.hottest(-1), -2);
        due(17, "hottest(2)", s.hottest(2), -2);
        due(18, "waited(-1)", s.waited(-1), -2);
        due(18, "waited(3)", s.waited(3), -2);
    }
}
