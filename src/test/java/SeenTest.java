import java.math.BigInteger;

/** Promises 24 to 31: what was seen, chances, evenings by a seed. */
public final class SeenTest {
    private static final Checks checks = new Checks();
    private static final long BAD_LONG = Long.MIN_VALUE + 2;

    public static void main(String[] args) {
        seen();
        forget();
        never();
        waters();
        kind();
        ask();
        chance();
        chanceOfMany();
        evenings();
        eveningsByLots();
        checks.end();
    }

    private static void due(int promise, String call, long got, long want) {
        checks.due(promise, call, got, want);
    }

    private static Samovar hot() {
        return Checks.told("ab3;ab3", "", 4, 16);
    }

    private static void seen() {
        Samovar s = hot();
        due(24, "seen(-1, 0)", s.seen(-1, 0), -2);
        due(24, "seen(24, 0)", s.seen(24, 0), -2);
        due(24, "seen(0, -1)", s.seen(0, -1), -2);
        due(24, "seen(0, 2)", s.seen(0, 2), -2);
        due(24, "count(7)", s.count(7), 0);
        for (int i = 1; i <= 8; i++) {
            due(24, "seen", s.seen(i * 2 + 7, i % 2), i);
        }
        due(24, "seen(0, 0), a ninth", s.seen(0, 0), -4);
        due(24, "seen(0, 2), a ninth", s.seen(0, 2), -2);
        due(24, "count(7)", s.count(7), 8);
    }

    private static void forget() {
        Samovar s = hot();
        due(25, "forget()", s.forget(), 0);
        s.seen(0, 1);
        s.seen(0, 1);
        due(25, "waters()", s.waters(), 0);
        due(25, "forget()", s.forget(), 2);
        due(25, "count(7)", s.count(7), 0);
        due(25, "waters()", s.waters(), 0x7FFFFFFF);
        due(25, "seen(3, 1)", s.seen(3, 1), 1);
    }

    private static void never() {
        Samovar s = hot();
        due(26, "never() without events", s.never(), 0);
        s.event(1, 2, 1);
        s.event(0, 3, 9);
        s.event(0, 20, 9);
        due(26, "never() with nothing seen", s.never(), 7);
        s.seen(3, 1);
        due(26, "never()", s.never(), 2);
        s.seen(4, 1);
        due(26, "never()", s.never(), 2);
        s.seen(5, 0);
        due(26, "never()", s.never(), 0);
        s.forget();
        s.seen(3, 0);
        due(26, "never()", s.never(), 5);
    }

    private static void waters() {
        // Behind minute 3 HEAT is four times 22 less a fifth of WATER: 80 at least by 14 at most.
        Samovar s = hot();
        s.seen(3, 1);
        due(27, "waters()", s.waters(), 0x7FFE);
        s.seen(4, 0);
        // Of one glass none is left in minute 4.
        due(27, "waters()", s.waters(), 2);
        s.forget();
        s.seen(3, 0);
        due(27, "waters()", s.waters(), 0x7FFF8001);
        s.seen(3, 1);
        due(27, "waters() of both", s.waters(), 0);
        due(27, "count(5)", s.count(5), 4);
    }

    private static void kind() {
        Samovar s = hot();
        due(28, "kind(0)", s.kind(0), 7);
        due(28, "kind(-1)", s.kind(-1), -2);
        due(28, "kind(2)", s.kind(2), -2);
        s.seen(3, 1);
        due(28, "kind(0)", s.kind(0), 2);
        s.forget();
        s.seen(4, 1);
        due(28, "kind(0)", s.kind(0), 6);
        s.seen(3, 0);
        due(28, "kind(1)", s.kind(1), 4);
        s.forget();
        s.seen(4, 0);
        due(28, "kind(1)", s.kind(1), 1);
        due(28, "piece(1, 1)", s.piece(1, 1), 1);
    }

    private static void ask() {
        Samovar s = hot();
        // In minute 3 it boils by 1 to 14, and not by 17; no other minute parts them as well.
        due(29, "ask()", s.ask(), 3);
        s.seen(3, 1);
        // Of 1 to 14 it boils in minute 10 by 2 to 10: the greater number is 9.
        due(29, "ask()", s.ask(), 10);
        s.seen(3, 0);
        due(29, "ask() of none", s.ask(), 0);
        s.forget();
        s.wipe(0);
        due(29, "ask() without fuel", s.ask(), 0);
    }

    private static void chances(Samovar s, int c, int guest, long above, long below) {
        due(30, "chance(" + c + ", " + guest + ", 0)", s.chance(c, guest, 0), above);
        due(30, "chance(" + c + ", " + guest + ", 1)", s.chance(c, guest, 1), below);
    }

    private static void chance() {
        Samovar s = Checks.told("ab3;ab3", "aw1;xw4", 4, 16);
        chances(s, 0, 0, 1, 1);
        chances(s, 7, 0, 1, 1);
        chances(s, 7, 1, 0, 1);
        s.event(0, 3, 9);
        chances(s, 0, 0, 1, 1);
        chances(s, 5, 0, 11, 16);
        chances(s, 4, 0, 3, 4);
        chances(s, 8, 0, 1, 2);
        chances(s, 16, 0, 0, 1);
        s.event(0, 2, 9);
        chances(s, 4, 0, 9, 16);
        chances(s, 5, 0, 121, 256);
        due(30, "chance(-1, 0, 0)", s.chance(-1, 0, 0), BAD_LONG);
        due(30, "chance(17, 0, 0)", s.chance(17, 0, 0), BAD_LONG);
        due(30, "chance(1, -1, 0)", s.chance(1, -1, 0), BAD_LONG);
        due(30, "chance(1, 2, 0)", s.chance(1, 2, 0), BAD_LONG);
        due(30, "chance(1, 0, -1)", s.chance(1, 0, -1), BAD_LONG);
        due(30, "chance(1, 0, 2)", s.chance(1, 0, 2), BAD_LONG);
        // It boils in minute 4, by 86, if the boot was there once at least: 1 less 3/4 by 3/4.
        Samovar b = Checks.told("ab3;ab1", "aw1", 4, 16);
        b.event(2, 3, 0);
        b.event(2, 4, 0);
        b.event(1, 4, 0);
        due(30, "sum(1)", b.sum(1), 1);
        chances(b, 4, 0, 7, 16);
    }

    private static void chanceOfMany() {
        Samovar s = Checks.told("ab3;ab3", "aw1", 4, 16);
        for (int i = 0; i < 8; i++) {
            s.event(0, 3, 9);
        }
        BigInteger fifteen = BigInteger.valueOf(15).pow(8);
        chances(s, 1, 0, fifteen.longValueExact(), 1L << 32);
        chances(s, 8, 0, 1, 256);
        chances(s, 16, 0, 0, 1);
        chances(s, 0, 0, 1, 1);
    }

    private static void evenings() {
        Samovar s = hot();
        due(31, "evenings(1, -1, 0)", s.evenings(1, -1, 0), -2);
        due(31, "evenings(1, 9, 0)", s.evenings(1, 9, 0), -2);
        due(31, "evenings(1, 1, -1)", s.evenings(1, 1, -1), -2);
        due(31, "evenings(1, 1, 2)", s.evenings(1, 1, 2), -2);
        due(31, "evenings(1, 0, 0)", s.evenings(1, 0, 0), 0);
        due(31, "evenings(1, 0, 1)", s.evenings(1, 0, 1), 0);
        due(31, "count(1)", s.count(1), 0);
    }

    private static long lot(long[] seed, int m) {
        seed[0] = (1103515245L * seed[0] + 12345L) & 0xFFFFFFFFL;
        return (seed[0] >> 16) % m;
    }

    /** The guests that a seed brings, told as a text, come to the same. */
    private static void eveningsByLots() {
        int[] seeds = {0, 1, 2, 3, 7, -1, -12345, 1 << 31, -1 >>> 1};
        for (int seed : seeds) {
            for (int n = 0; n <= 8; n++) {
                StringBuilder text = new StringBuilder();
                long[] state = {seed & 0xFFFFFFFFL};
                for (int g = 0; g < n; g++) {
                    text.append(g == 0 ? "" : ";").append((char) ('a' + lot(state, 24)));
                    text.append(lot(state, 2) == 0 ? 'w' : 'd').append(1 + lot(state, 4));
                }
                Samovar told = Checks.told("ab3;ab3;bb2;cc3;jc3;mb3", text.toString(), 18, 25);
                told.event(2, 2, 0);
                told.event(0, 9, 4);
                due(7, "count(1)", told.count(1), n);
                due(31, "evenings(" + seed + ", " + n + ", 0)", told.evenings(seed, n, 0), told.sum(0));
                due(31, "evenings(" + seed + ", " + n + ", 1)", told.evenings(seed, n, 1), told.sum(2));
            }
        }
    }
}
