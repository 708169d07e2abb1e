import java.math.BigInteger;

/** Terms, sections 3 and 4, FRACTIONS, LOTS, and promises 20 to 31: each sentence that names a boundary case. */
public final class EdgesOfPlansTest {
    private static final Checks checks = new Checks();
    private static final int NONE = -1, BAD = -2, FULL = -4;
    private static final long BAD_LONG = Long.MIN_VALUE + 2;
    private static final int ALL_WATERS = 0x7FFFFFFF;
    private static final int[] FAR = {Integer.MIN_VALUE, -1, Integer.MAX_VALUE};

    public static void main(String[] args) {
        betterKind();
        betterOfLikeOnes();
        fillToThirty();
        fillOfLikeOnes();
        comeInPlaceOfOnesOwn();
        comeOfLikeOnes();
        theEighth();
        spareNone();
        spareOne();
        spareTwo();
        spareThree();
        spareLeastRow();
        eightSeen();
        neverAlone();
        watersAsBits();
        kindAsBits();
        askLeast();
        askOfLikeOnes();
        sixteenths();
        lowestTerms();
        byMinute23();
        eveningsOfNone();
        eveningsOfEight();
        eveningsInPlace();
        lots();
        plansRefused();
        spareRefused();
        seenRefused();
        forgetHowMany();
        kindRefused();
        chanceRefused();
        eveningsRefused();
        checks.end();
    }

    private static void sentence(String words) {
        checks.sentence(words);
    }

    private static void due(String call, long got, long want) {
        checks.due(call, got, want);
    }

    /** HEAT is 22, 44, 66, 88, 100 in minutes 0 to 4, then 2 less in each. */
    private static Samovar hot(String guests) {
        return Checks.told("ab3;ab3", guests, 4, 16);
    }

    /**
     * Cold water in minute 3 for one who comes in minute 0: by up to 6 glasses it boils in minute 4 at the
     * latest (by 6: 62, then 82), by 7 (58, 78) or more it does not while the guest waits.
     */
    private static Samovar cooled(int... numbers) {
        Samovar s = hot("aw1");
        for (int number : numbers) {
            s.event(0, 3, number);
        }
        return s;
    }

    // ---- section 3

    private static void betterKind() {
        sentence("its kind (0 k, 1 b, 2 c), in place of its own, by which most GLASSES are drunk");
        // One glass, for one who comes in 4: by cones 81, 99; by birch and by charcoal 100 in 4, and it steams away.
        for (String own : new String[] {"k", "b", "c"}) {
            Samovar s = Checks.told("ab3;ab2;b" + own + "1", "ew1", 1, 16);
            due("better(2, 0), cones, told " + own, s.better(2, 0), 0);
            due("better(2, 1), cones, told " + own, s.better(2, 1), 1);
            due("sum(0), told " + own, s.sum(0), own.equals("k") ? 1 : 0);
            // By cones in place of one birch 77 at most, by charcoal it boils in 4, too late for one of three.
            s = Checks.told("a" + own + "3;ab3", "aw1;bd2;dw2", 4, 16);
            due("better(0, 0), birch, told " + own, s.better(0, 0), 1);
            due("better(0, 1), birch, told " + own, s.better(0, 1), 3);
            // By charcoal alone it boils still in 17.
            s = Checks.told("ab3;ab3;f" + own + "2", "rw1", 14, 16);
            due("better(2, 0), charcoal, told " + own, s.better(2, 0), 2);
            due("better(2, 1), charcoal, told " + own, s.better(2, 1), 1);
            due("piece(2, 1), as told", s.piece(2, 1), "kbc".indexOf(own));
        }
    }

    private static void betterOfLikeOnes() {
        sentence("BETTER: of like ones the least");
        Samovar s = Checks.told("xc3", "aw1", 16, 16);
        due("better(0, 0) of none", s.better(0, 0), 0);
        due("better(0, 1) of none", s.better(0, 1), 0);
        // Birch and charcoal alike: one comes in 5, and by cones it never boils.
        s = Checks.told("ac3;ab3", "fw1", 4, 16);
        due("better(0, 0) of birch and charcoal", s.better(0, 0), 1);
        due("better(0, 1) of birch and charcoal", s.better(0, 1), 1);
    }

    /** It is 100 from minute 1 to 22, and four drink one behind another: of each two glasses one is drunk. */
    private static Samovar everyOtherGlass() {
        Samovar s = Checks.told("ab3;ab3;ab3;ab3;fc3;fc3;oc3;oc3", "bw4;bw4;bw4;bw4", 16, 40);
        s.event(2, 0, 0);
        return s;
    }

    private static void fillToThirty() {
        sentence("FILL: how much WATER there had better be at first (0 to 30)");
        Samovar s = everyOtherGlass();
        due("fill(0), the greatest", s.fill(0), 30);
        due("fill(1), the greatest", s.fill(1), 15);
        due("count(5), as told", s.count(5), 16);
        s.set(0, 29);
        due("sum(0) of 29", s.sum(0), 14);
        s.set(0, 30);
        due("sum(0) of 30", s.sum(0), 15);
        due("fill(0), one is enough", hot("dw1").fill(0), 1);
        due("fill(1), one is enough", hot("dw1").fill(1), 1);
    }

    private static void fillOfLikeOnes() {
        sentence("FILL: likewise (of like ones the least)");
        due("fill(0) without guests", hot("").fill(0), 0);
        due("fill(1) without guests", hot("").fill(1), 0);
        // Two drink, in 3 and 4, of 3 glasses or more, as one steams away.
        due("fill(0) for two", hot("dw1;dw1").fill(0), 3);
        due("fill(1) for two", hot("dw1;dw1").fill(1), 2);
    }

    private static void comeInPlaceOfOnesOwn() {
        sentence("COME of one of GUESTS: the MINUTE, in place of one's own");
        // Brew of 3 for one dark glass, or for two weak ones in 22 and 23: so the dark one had better come in 23.
        for (String own : new String[] {"a", "m", "v", "w", "x"}) {
            Samovar s = Checks.hotAllEvening(own + "d1;ww1;ww1", 3);
            due("come(0, 0), the last minute, told " + own, s.come(0, 0), 23);
            due("come(0, 1), the last minute, told " + own, s.come(0, 1), 2);
            due("guest(0, 0), as told", s.guest(0, 0), own.charAt(0) - 'a');
        }
        // Served at once and every third minute: one who comes in 0 to 14 has all four, and 0 is the first.
        Samovar first = Checks.hotAllEvening("xw4", 4);
        due("come(0, 0), the first minute", first.come(0, 0), 0);
        due("come(0, 1), the first minute", first.come(0, 1), 4);
    }

    private static void comeOfLikeOnes() {
        sentence("COME: likewise (of like ones the least)");
        due("come(0, 0), never served", Checks.told("", "xw1", 16, 16).come(0, 0), 0);
        due("come(0, 1), never served", Checks.told("", "xw1", 16, 16).come(0, 1), 0);
        // It boils in 9 first: 4 is the first minute of which 9 is one of the six.
        due("come(0, 0)", Checks.told("gb3;gb3", "xw1", 4, 16).come(0, 0), 4);
        due("come(0, 1)", Checks.told("gb3;gb3", "xw1", 4, 16).come(0, 1), 1);
    }

    private static void theEighth() {
        sentence("BETTER of a PIECE; COME of one of GUESTS; KIND of a PIECE: the eighth (7)");
        // It boils by two birches, from 3 to 14, and not for those who wait in 16 to 21; cones in 23 change nothing.
        Samovar s = Checks.told("xk1;xk1;xk1;xk1;xk1;xk1;ab3;ak3", "qw1;qw1;qw1;qw1;qw1;qw1;qw1;qw1", 4, 16);
        due("better(7, 0), of like ones", s.better(7, 0), 0);
        due("better(7, 1), of like ones", s.better(7, 1), 0);
        s.seen(3, 1);
        due("kind(7)", s.kind(7), 2);
        due("kind(6)", s.kind(6), 0);
        due("kind(0)", s.kind(0), 0);
        // With it as birch one who comes in 0 is served in 3, two of them in 3 and 4.
        Checks.retell(s, 0, "xk1;xk1;xk1;xk1;xk1;xk1;ab3;ab3");
        due("come(7, 0)", s.come(7, 0), 0);
        due("come(7, 1)", s.come(7, 1), 1);
        due("come(0, 1)", s.come(0, 1), 1);
        due("better(7, 1)", s.better(7, 1), 0);
        Checks.retell(s, 1, "qw1;qw1;qw1;qw1;qw1;qw1;qw1;aw1");
        due("better(7, 0)", s.better(7, 0), 1);
        due("better(7, 1)", s.better(7, 1), 1);
        due("better(6, 0)", s.better(6, 0), 1);
        due("better(0, 1)", s.better(0, 1), 1);
        due("come(7, 0)", s.come(7, 0), 0);
        due("come(6, 0)", s.come(6, 0), 0);
        due("come(6, 1)", s.come(6, 1), 2);
    }

    private static void spares(Samovar s, int many, int first, int second) {
        due("spare(-1)", s.spare(-1), many);
        due("spare(0)", s.spare(0), first);
        due("spare(1)", s.spare(1), second);
    }

    private static void spareNone() {
        sentence("SPARE: the fewest EVENTS (0 to 2) that had better not be, so that none is GONE: 0");
        spares(new Samovar(), 0, NONE, NONE);
        spares(cooled(), 0, NONE, NONE);
        spares(cooled(6), 0, NONE, NONE);
        spares(cooled(1, 1, 1, 1, 1, 1), 0, NONE, NONE);
        // Behind minute 23 one is still in the line, and not gone.
        spares(Checks.told("", "tw1", 16, 16), 0, NONE, NONE);
    }

    private static void spareOne() {
        sentence("SPARE: the fewest EVENTS (0 to 2) that had better not be, so that none is GONE: 1");
        spares(cooled(7), 1, 0, NONE);
        spares(cooled(0, 0, 0, 0, 0, 0, 0, 9), 1, 7, NONE);
        // Without 2 alone as without 0 and 1: one is fewer.
        spares(cooled(3, 3, 6), 1, 2, NONE);
    }

    private static void spareTwo() {
        sentence("SPARE: the fewest EVENTS (0 to 2) that had better not be, so that none is GONE: 2");
        spares(cooled(9, 9), 2, 0, 1);
        spares(cooled(0, 9, 0, 9), 2, 1, 3);
        spares(cooled(0, 0, 0, 0, 0, 0, 9, 9), 2, 6, 7);
        spares(cooled(9, 0, 0, 0, 0, 0, 0, 9), 2, 0, 7);
    }

    private static void spareThree() {
        sentence("SPARE: NONE");
        spares(cooled(7, 7, 7), NONE, NONE, NONE);
        spares(cooled(9, 9, 9, 9, 9, 9, 9, 9), NONE, NONE, NONE);
        spares(Checks.told("", "sw1", 16, 16), NONE, NONE, NONE);
        Samovar cold = Checks.told("", "sw1", 16, 16);
        cold.event(0, 3, 9);
        spares(cold, NONE, NONE, NONE);
        // Eight of them that do nothing, as there are 30 glasses: 12 in each minute is too slow without any two.
        Samovar eight = Checks.told("ab3;ab2", "aw1", 30, 16);
        for (int i = 0; i < 8; i++) {
            eight.event(0, 0, 1);
        }
        spares(eight, NONE, NONE, NONE);
    }

    private static void spareLeastRow() {
        sentence("SPARE: of like ones the least row (each more than the one ahead)");
        spares(cooled(4, 4), 1, 0, NONE);
        spares(cooled(0, 4, 4), 1, 1, NONE);
        spares(cooled(4, 4, 4), 2, 0, 1);
        spares(cooled(0, 4, 4, 4), 2, 1, 2);
        // Without 0 and 3, or without 1 and 2: 0 is less, whatever is behind it.
        spares(cooled(1, 3, 3, 5), 2, 0, 3);
    }

    // ---- section 4

    private static void eightSeen() {
        sentence("SEEN, 8 at most: in a MINUTE it BOILED (1), or not (0)");
        Samovar s = hot("");
        for (int i = 1; i <= 8; i++) {
            due("seen(3, 1)", s.seen(3, 1), i);
        }
        due("seen(3, 1), a ninth", s.seen(3, 1), FULL);
        due("count(7)", s.count(7), 8);
        due("waters()", s.waters(), 0x7FFE);
        // The eighth counts as the first does.
        Samovar last = hot("");
        for (int i = 0; i < 7; i++) {
            last.seen(0, 0);
        }
        due("waters() of seven", last.waters(), ALL_WATERS);
        last.seen(3, 1);
        due("waters() of eight", last.waters(), 0x7FFE);
        Samovar not = hot("");
        not.seen(3, 0);
        due("waters() of 0", not.waters(), ALL_WATERS - 0x7FFE);
        not.seen(3, 1);
        due("waters() of both", not.waters(), 0);
    }

    private static void neverAlone() {
        sentence("NEVER: EVENTS each of which, had it alone not been, makes all that was SEEN come out so, as bits");
        due("never() of none", hot("").never(), 0);
        Samovar s = cooled(9, 0, 0, 0, 0, 0, 0, 0);
        due("never() of eight, nothing seen", s.never(), 255);
        s.seen(3, 1);
        due("never(), the first", s.never(), 1);
        Samovar last = cooled(0, 0, 0, 0, 0, 0, 0, 9);
        last.seen(3, 1);
        due("never(), the eighth", last.never(), 128);
        last.seen(3, 0);
        due("never(), of what cannot be", last.never(), 0);
        last.forget();
        last.seen(3, 0);
        due("never(), all but the eighth", last.never(), 127);
        // Both would have to be without.
        Samovar two = cooled(9, 9);
        two.seen(4, 1);
        due("never(), none alone", two.never(), 0);
        due("count(3)", two.count(3), 2);
    }

    private static void watersAsBits() {
        sentence("WATERS: 0 to 30 at first, in place of what is told, likewise, as bits");
        due("waters(), nothing seen", new Samovar().waters(), ALL_WATERS);
        // By 96 it boils in minute 0 of any water that there is: 94 to 88.
        Samovar s = Checks.told("ab3;ab3;ab3;ab3;ab3;ab3;ab3;ab3", "", 16, 16);
        s.seen(0, 0);
        due("waters() of no water", s.waters(), 1);
        s.forget();
        s.seen(0, 1);
        due("waters() of water", s.waters(), ALL_WATERS - 1);
        due("count(5), as told", s.count(5), 16);
        // By 87 HEAT is 80 of 29 glasses, and 79 of 30.
        Samovar most = Checks.told("ab3;ab3;ab3;ab3;ab3;ab3;ab3;ak1", "", 16, 16);
        most.seen(0, 0);
        due("waters() of 87", most.waters(), 1 | 1 << 30);
        most.forget();
        most.seen(0, 1);
        due("waters() of 87, but these", most.waters(), ALL_WATERS - 1 - (1 << 30));
    }

    private static void kindAsBits() {
        sentence("KIND of a PIECE: 0 to 2, in place of its own, likewise, as bits");
        for (String own : new String[] {"k", "b", "c"}) {
            kindOf(0, Checks.told("a" + own + "3;ab3", "", 4, 16), "kbc".indexOf(own));
            kindOf(1, Checks.told("ab3;a" + own + "3", "", 4, 16), "kbc".indexOf(own));
        }
    }

    /** Beside three birches it boils by birch from 3 on, by charcoal from 4 on, by cones never. */
    private static void kindOf(int piece, Samovar s, int told) {
        String call = "kind(" + piece + "), ";
        due(call + "nothing seen", s.kind(piece), 7);
        s.seen(4, 0);
        due(call + "cones", s.kind(piece), 1);
        s.forget();
        s.seen(3, 1);
        due(call + "birch", s.kind(piece), 2);
        s.forget();
        s.seen(3, 0);
        s.seen(4, 1);
        due(call + "charcoal", s.kind(piece), 4);
        s.seen(0, 1);
        due(call + "of what cannot be", s.kind(piece), 0);
        due("piece(" + piece + ", 1), as told", s.piece(piece, 1), told);
    }

    private static void askLeast() {
        sentence("ASK: the MINUTE of which the greatest number of those of WATERS by which it BOILED in it alike"
            + " (or not) is least");
        // By 1 to 14 it boils in 3, by 17 not: 17 is the least that the greater number can be here.
        due("ask(), minute 3", hot("").ask(), 3);
        // By 1 to 4 it is 26 behind 15, and 82 in 23; by others it never boils.
        due("ask(), minute 23", Checks.told("jb2;qc3", "", 16, 16).ask(), 23);
        Samovar none = hot("");
        none.seen(3, 0);
        none.seen(3, 1);
        due("waters(), none", none.waters(), 0);
        due("ask() of none", none.ask(), 0);
    }

    private static void askOfLikeOnes() {
        sentence("ASK: of like ones the least");
        due("ask(), no minute parts them", new Samovar().ask(), 0);
        // By 84 it is 80 in minute 0 of 1 to 14 glasses: 14 to 17. Then a glass steams away in each minute: in 13
        // to 17 it boils by 14 to 30, which is 17 to 14, and no minute is better.
        Samovar first = Checks.told("ab3;ab3;ab3;ab3;ab3;ab3;ab3;fc3", "", 16, 16);
        due("ask() of 0 and 13 to 17", first.ask(), 0);
        // Of 0 to 4 glasses: in 0 it boils by 1 to 4, in 1 by 2 to 4, in 2 by 3 and 4, in 3 by 4.
        Samovar s = Checks.told("ab3;ab3;ab3;ab3;ab3;ab3;ab3;ab3", "", 16, 16);
        s.seen(5, 0);
        due("waters(): those that steam away", s.waters(), 0x1F);
        due("ask() of 1 and 2", s.ask(), 1);
    }

    // ---- chances

    private static void fraction(Samovar s, int c, int guest, long above, long below) {
        due("chance(" + c + ", " + guest + ", 0)", s.chance(c, guest, 0), above);
        due("chance(" + c + ", " + guest + ", 1)", s.chance(c, guest, 1), below);
    }

    private static void sixteenths() {
        sentence("CHANCE: each of EVENTS is by c sixteenths (0 to 16), by itself");
        for (int n = 0; n <= 8; n++) {
            int[] numbers = new int[n];
            java.util.Arrays.fill(numbers, 9);
            Samovar s = cooled(numbers);
            for (int c = 0; c <= 16; c++) {
                // Content, if none of them is.
                BigInteger above = BigInteger.valueOf(16 - c).pow(n);
                BigInteger below = BigInteger.valueOf(16).pow(n);
                BigInteger both = above.gcd(below);
                fraction(s, c, 0, above.divide(both).longValueExact(), below.divide(both).longValueExact());
            }
        }
    }

    private static void lowestTerms() {
        sentence("FRACTIONS are told in lowest terms, above and below (0 by 1)");
        fraction(hot("aw1;xw4"), 5, 0, 1, 1);
        fraction(hot("aw1;xw4"), 5, 1, 0, 1);
        Samovar s = cooled(9);
        fraction(s, 0, 0, 1, 1);
        fraction(s, 16, 0, 0, 1);
        fraction(s, 1, 0, 15, 16);
        fraction(s, 2, 0, 7, 8);
        fraction(s, 4, 0, 3, 4);
        fraction(s, 8, 0, 1, 2);
        // 15 to the eighth by 16 to the eighth; one of 16 to the eighth.
        Samovar eight = cooled(9, 9, 9, 9, 9, 9, 9, 9);
        fraction(eight, 1, 0, 2562890625L, 4294967296L);
        fraction(eight, 15, 0, 1, 4294967296L);
        // Whether or not they are: the whole comes to 1 by 1 of 16 to the eighth.
        Samovar all = cooled(0, 0, 0, 0, 0, 0, 0, 0);
        fraction(all, 7, 0, 1, 1);
    }

    private static void byMinute23() {
        sentence("the chance that one of GUESTS is CONTENT by MINUTE 23");
        // Brew for one in minute 23, by c sixteenths; it boils then with the boot and without.
        Samovar s = Checks.hotAllEvening("xw1;xw1", 0);
        s.event(1, 23, 1);
        fraction(s, 4, 0, 1, 4);
        fraction(s, 4, 1, 0, 1);
        fraction(s, 16, 0, 1, 1);
        fraction(s, 0, 0, 0, 1);
        // Served in 23, and not the last time.
        Checks.retell(s, 1, "xw2");
        due("is(23, 0, 1)", s.is(23, 0, 1), 1);
        fraction(s, 16, 0, 0, 1);
    }

    // ---- evenings

    private static void eveningsOfNone() {
        sentence("EVENINGS by a SEED: n of GUESTS (0 to 8): 0");
        for (int seed : new int[] {0, 1, -1, Integer.MIN_VALUE, Integer.MAX_VALUE}) {
            Samovar s = Checks.hotAllEvening("aw4", 40);
            due("evenings(" + seed + ", 0, 0)", s.evenings(seed, 0, 0), 0);
            due("evenings(" + seed + ", 0, 1)", s.evenings(seed, 0, 1), 0);
        }
    }

    private static void eveningsOfEight() {
        sentence("EVENINGS by a SEED: n of GUESTS (0 to 8): 8");
        // By seed 1 all eight come in a minute up to 18, without a fire, and go.
        Samovar cold = new Samovar();
        due("evenings(1, 8, 1)", cold.evenings(1, 8, 1), 8);
        due("evenings(1, 8, 0)", cold.evenings(1, 8, 0), 0);
        for (int n = 0; n <= 8; n++) {
            due("evenings(1, " + n + ", 1)", cold.evenings(1, n, 1), n);
        }
    }

    private static void eveningsInPlace() {
        sentence("n of GUESTS (0 to 8), in place of those told");
        Samovar s = Checks.hotAllEvening("aw1;bw1;cw1", 40);
        due("sum(0)", s.sum(0), 3);
        long before = s.digest();
        due("evenings(9, 0, 0), none of those told", s.evenings(9, 0, 0), 0);
        Samovar alone = Checks.hotAllEvening("", 40);
        for (int n = 1; n <= 8; n++) {
            due("evenings(9, " + n + ", 0)", s.evenings(9, n, 0), alone.evenings(9, n, 0));
            due("evenings(9, " + n + ", 1)", s.evenings(9, n, 1), alone.evenings(9, n, 1));
        }
        due("count(1), as told", s.count(1), 3);
        due("sum(0), as told", s.sum(0), 3);
        due("digest(), as told", s.digest(), before);
    }

    private static int lot(BigInteger[] seed, int m) {
        BigInteger whole = BigInteger.ONE.shiftLeft(32);
        seed[0] = seed[0].multiply(BigInteger.valueOf(1103515245)).add(BigInteger.valueOf(12345)).mod(whole);
        return seed[0].shiftRight(16).mod(BigInteger.valueOf(m)).intValue();
    }

    /** The guests of a seed, as a text. */
    private static String guestsBy(int seed, int n) {
        BigInteger[] state = {BigInteger.valueOf(seed)};
        StringBuilder text = new StringBuilder();
        for (int g = 0; g < n; g++) {
            text.append(g == 0 ? "" : ";").append((char) ('a' + lot(state, 24)));
            text.append(lot(state, 2) == 0 ? 'w' : 'd').append(lot(state, 4) + 1);
        }
        return text.toString();
    }

    private static void lots() {
        sentence("LOTS of m: SEED becomes 1103515245 SEED and 12345, as ints that wrap;"
            + " its upper 16 bits as a number from 0 on, modulo m");
        // 12345 has no upper bits: the first one of seed 0 comes in minute 0.
        due("the first byte of seed 0", guestsBy(0, 1).charAt(0), 'a');
        int[] seeds = {0, 1, 2, 7, -1, -2, 12345, -12345, 1 << 15, 1 << 16, 1 << 30, Integer.MIN_VALUE,
            Integer.MIN_VALUE + 1, Integer.MAX_VALUE, Integer.MAX_VALUE - 1, 0x8000FFFF, 0x7FFF0000};
        for (int seed : seeds) {
            for (int n = 1; n <= 8; n++) {
                Samovar s = Checks.hotAllEvening(guestsBy(seed, n), 20);
                due("count(1) of seed " + seed, s.count(1), n);
                due("evenings(" + seed + ", " + n + ", 0)", s.evenings(seed, n, 0), s.sum(0));
                due("evenings(" + seed + ", " + n + ", 1)", s.evenings(seed, n, 1), s.sum(2));
            }
        }
    }

    // ---- promises 20 to 31

    private static void plansRefused() {
        sentence("BETTER, FILL, COME: which (what = 0), how many (1). BAD");
        Samovar s = hot("aw1");
        due("better(0, 2)", s.better(0, 2), BAD);
        due("better(2, 0)", s.better(2, 0), BAD);
        due("better(8, 0)", s.better(8, 0), BAD);
        due("fill(2)", s.fill(2), BAD);
        due("come(0, 2)", s.come(0, 2), BAD);
        due("come(1, 0)", s.come(1, 0), BAD);
        due("come(8, 0)", s.come(8, 0), BAD);
        for (int far : FAR) {
            due("better(0, " + far + ")", s.better(0, far), BAD);
            due("better(" + far + ", 0)", s.better(far, 0), BAD);
            due("fill(" + far + ")", s.fill(far), BAD);
            due("come(0, " + far + ")", s.come(0, far), BAD);
            due("come(" + far + ", 0)", s.come(far, 0), BAD);
        }
        Samovar none = new Samovar();
        due("better(0, 0) without fuel", none.better(0, 0), BAD);
        due("come(0, 0) without guests", none.come(0, 0), BAD);
    }

    private static void spareRefused() {
        sentence("SPARE: how many (i = NONE), the i-th (0, 1; NONE); NONE. BAD");
        for (Samovar s : new Samovar[] {new Samovar(), cooled(9), cooled(9, 9), cooled(9, 9, 9)}) {
            due("spare(2)", s.spare(2), BAD);
            due("spare(-2)", s.spare(-2), BAD);
            due("spare(the least)", s.spare(Integer.MIN_VALUE), BAD);
            due("spare(the greatest)", s.spare(Integer.MAX_VALUE), BAD);
        }
        due("spare(1) of one", cooled(9).spare(1), NONE);
        due("spare(0) of none", cooled().spare(0), NONE);
    }

    private static void seenRefused() {
        sentence("SEEN more: how many. BAD; FULL");
        Samovar s = hot("");
        for (int i = 0; i <= 8; i++) {
            due("seen(24, 0)", s.seen(24, 0), BAD);
            due("seen(0, 2)", s.seen(0, 2), BAD);
            for (int far : FAR) {
                due("seen(" + far + ", 0)", s.seen(far, 0), BAD);
                due("seen(0, " + far + ")", s.seen(0, far), BAD);
            }
            due("count(7)", s.count(7), i);
            due("seen(" + (i + 15) + ", 0)", s.seen(i + 15, 0), i == 8 ? FULL : i + 1);
        }
        due("forget()", s.forget(), 8);
        due("seen(0, 0), there is room again", s.seen(0, 0), 1);
    }

    private static void forgetHowMany() {
        sentence("All SEEN are forgotten: how many");
        Samovar s = hot("");
        due("forget() of none", s.forget(), 0);
        for (int n = 1; n <= 8; n++) {
            for (int i = 0; i < n; i++) {
                s.seen(0, 1);
            }
            due("waters() of " + n, s.waters(), 0);
            due("forget() of " + n, s.forget(), n);
            due("waters() behind it", s.waters(), ALL_WATERS);
            due("forget() once more", s.forget(), 0);
        }
    }

    private static void kindRefused() {
        sentence("KIND, as bits. BAD");
        Samovar s = hot("");
        due("kind(1)", s.kind(1), 7);
        due("kind(2)", s.kind(2), BAD);
        due("kind(8)", s.kind(8), BAD);
        for (int far : FAR) {
            due("kind(" + far + ")", s.kind(far), BAD);
        }
        due("kind(0) without fuel", new Samovar().kind(0), BAD);
    }

    private static void chanceRefused() {
        sentence("Where the answer is a long, a refusal -x is the least long and x more: chance: BAD");
        Samovar s = cooled(9);
        due("chance(17, 0, 0)", s.chance(17, 0, 0), BAD_LONG);
        due("chance(0, 1, 0)", s.chance(0, 1, 0), BAD_LONG);
        due("chance(0, 8, 0)", s.chance(0, 8, 0), BAD_LONG);
        due("chance(0, 0, 2)", s.chance(0, 0, 2), BAD_LONG);
        for (int far : FAR) {
            due("chance(" + far + ", 0, 0)", s.chance(far, 0, 0), BAD_LONG);
            due("chance(0, " + far + ", 0)", s.chance(0, far, 0), BAD_LONG);
            due("chance(0, 0, " + far + ")", s.chance(0, 0, far), BAD_LONG);
        }
        due("chance(0, 0, 0) without guests", new Samovar().chance(0, 0, 0), BAD_LONG);
        due("count(8)", s.count(8), 0);
    }

    private static void eveningsRefused() {
        sentence("EVENINGS: GLASSES (what = 0), how many are GONE (1). BAD");
        Samovar s = hot("");
        due("evenings(7, 9, 0)", s.evenings(7, 9, 0), BAD);
        due("evenings(7, 0, 2)", s.evenings(7, 0, 2), BAD);
        for (int far : FAR) {
            due("evenings(7, " + far + ", 0)", s.evenings(7, far, 0), BAD);
            due("evenings(7, 0, " + far + ")", s.evenings(7, 0, far), BAD);
            due("evenings(" + far + ", 0, 0), any seed may be", s.evenings(far, 0, 0), 0);
        }
    }
}
