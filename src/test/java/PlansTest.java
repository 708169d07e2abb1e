/** Promises 20 to 23: what had better be, and what had better not have been. */
public final class PlansTest {
    private static final Checks checks = new Checks();

    public static void main(String[] args) {
        better();
        betterOfEight();
        fill();
        come();
        comeOfEight();
        spare();
        spareOfTwo();
        checks.end();
    }

    private static void due(int promise, String call, long got, long want) {
        checks.due(promise, call, got, want);
    }

    private static void better() {
        // Cones in place of piece 0 come to 77 at most; charcoal boils a minute late: two glasses; birch: three.
        Samovar s = Checks.told("ab3;ab3", "aw1;bd2;dw2", 4, 16);
        due(20, "better(0, 0)", s.better(0, 0), 1);
        due(20, "better(0, 1)", s.better(0, 1), 3);
        due(20, "better(1, 0)", s.better(1, 0), 1);
        // Told otherwise, the answer is the same, and nothing else is.
        Checks.retell(s, 0, "ak3;ab3");
        due(20, "better(0, 0)", s.better(0, 0), 1);
        due(20, "better(0, 1)", s.better(0, 1), 3);
        due(20, "piece(0, 1)", s.piece(0, 1), 0);
        due(20, "sum(0)", s.sum(0), 0);
        due(20, "better(0, -1)", s.better(0, -1), -2);
        due(20, "better(0, 2)", s.better(0, 2), -2);
        due(20, "better(-1, 0)", s.better(-1, 0), -2);
        due(20, "better(2, 0)", s.better(2, 0), -2);
        s.wipe(1);
        due(20, "better(1, 0) of like ones", s.better(1, 0), 0);
        due(20, "better(1, 1) of like ones", s.better(1, 1), 0);
        // Charcoal alone keeps it hot till minute 17: 100 in 4 to 13, then 2 less in each.
        Checks.retell(s, 0, "ab3;ab3;fb2");
        Checks.retell(s, 1, "rw1");
        s.set(0, 14);
        due(20, "better(2, 0) for a late guest", s.better(2, 0), 2);
        due(20, "better(2, 1) for a late guest", s.better(2, 1), 1);
    }

    private static void betterOfEight() {
        // Pieces 0 to 5 burn when it is too late; 6 is birch, and it boils if 7 is birch too.
        Samovar s = Checks.told("xk1;xk1;xk1;xk1;xk1;xk1;ab3;ak3", "aw1", 4, 16);
        due(20, "better(7, 0)", s.better(7, 0), 1);
        due(20, "better(7, 1)", s.better(7, 1), 1);
        due(20, "better(6, 0)", s.better(6, 0), 0);
        due(20, "better(6, 1)", s.better(6, 1), 0);
        due(20, "better(0, 1)", s.better(0, 1), 0);
    }

    private static void comeOfEight() {
        // Water for four, one of which steams away: guests 0 to 2 drink it in 3 to 5, whenever 7 comes.
        Samovar s = Checks.told("ab3;ab3", "aw1;bw1;cw1;xw1;xw1;xw1;xw1;xw1", 4, 16);
        due(22, "sum(0)", s.sum(0), 3);
        due(22, "come(7, 1)", s.come(7, 1), 3);
        s.set(0, 7);
        // Four more are there for who comes while it boils; in minute 0 behind guest 0, one is served in 4.
        due(22, "come(7, 0)", s.come(7, 0), 0);
        due(22, "come(7, 1)", s.come(7, 1), 4);
        due(22, "come(1, 0)", s.come(1, 0), 0);
        due(22, "come(1, 1)", s.come(1, 1), 3);
    }

    private static void fill() {
        Samovar s = Checks.told("ab3;ab3", "aw1", 30, 16);
        due(21, "fill(0)", s.fill(0), 1);
        due(21, "fill(1)", s.fill(1), 1);
        due(21, "fill(-1)", s.fill(-1), -2);
        due(21, "fill(2)", s.fill(2), -2);
        due(21, "count(5)", s.count(5), 30);
        // One steams away in minute 4: two glasses, in 3 and 4, want three.
        Checks.retell(s, 1, "aw1;aw1");
        due(21, "fill(0) for two", s.fill(0), 3);
        due(21, "fill(1) for two", s.fill(1), 2);
        s.wipe(0);
        due(21, "fill(0) without fuel", s.fill(0), 0);
        due(21, "fill(1) without fuel", s.fill(1), 0);
        s.wipe(1);
        due(21, "fill(0) without guests", s.fill(0), 0);
    }

    private static void come() {
        // It boils in 9 first, by 88: who comes in 4 is served in the sixth minute.
        Samovar s = Checks.told("gb3;gb3", "xw1", 4, 16);
        due(22, "sum(0)", s.sum(0), 0);
        due(22, "come(0, 0)", s.come(0, 0), 4);
        due(22, "come(0, 1)", s.come(0, 1), 1);
        due(22, "guest(0, 0)", s.guest(0, 0), 23);
        due(22, "come(0, -1)", s.come(0, -1), -2);
        due(22, "come(0, 2)", s.come(0, 2), -2);
        due(22, "come(-1, 0)", s.come(-1, 0), -2);
        due(22, "come(1, 0)", s.come(1, 0), -2);
        Checks.retell(s, 0, "sb3;sb3;sb3");
        // 34, 68, 100: it boils in 20, and the first minute whose line lasts till then is 15.
        due(22, "come(0, 0)", s.come(0, 0), 15);
        s.wipe(0);
        due(22, "come(0, 0) without fuel", s.come(0, 0), 0);
        due(22, "come(0, 1) without fuel", s.come(0, 1), 0);
    }

    private static void spares(Samovar s, int many, int first, int second) {
        due(23, "spare(-1)", s.spare(-1), many);
        due(23, "spare(0)", s.spare(0), first);
        due(23, "spare(1)", s.spare(1), second);
    }

    private static void spare() {
        Samovar s = Checks.told("ab3;ab3", "aw1", 4, 16);
        due(23, "spare(-2)", s.spare(-2), -2);
        due(23, "spare(2)", s.spare(2), -2);
        spares(s, 0, -1, -1);
        s.event(1, 0, 1);
        spares(s, 0, -1, -1);
        // Nine cold glasses in minute 3: 66 less 36, and it does not boil before the guest goes.
        s.event(0, 3, 9);
        due(23, "sum(2)", s.sum(2), 1);
        spares(s, 1, 1, -1);
        due(23, "count(3)", s.count(3), 2);
        s.wipe(0);
        spares(s, -1, -1, -1);
    }

    private static void spareOfTwo() {
        Samovar s = Checks.told("ab3;ab3", "aw1", 4, 16);
        s.event(0, 3, 9);
        spares(s, 1, 0, -1);
        s.event(0, 3, 9);
        spares(s, 2, 0, 1);
        // Without the boot the guest goes: it is not spared.
        Checks.retell(s, 0, "ab3;ab1");
        s.back();
        s.back();
        s.event(2, 4, 0);
        spares(s, 0, -1, -1);
        s.event(0, 3, 9);
        spares(s, 1, 1, -1);
        s.event(0, 3, 9);
        spares(s, 2, 1, 2);
        s.back();
        s.back();
        s.back();
        Checks.retell(s, 0, "ab3;ab3");
        s.event(0, 3, 9);
        s.event(1, 0, 1);
        s.event(0, 2, 9);
        spares(s, 2, 0, 2);
        s.event(1, 0, 1);
        spares(s, 2, 0, 2);
        s.event(0, 2, 9);
        spares(s, -1, -1, -1);
    }
}
