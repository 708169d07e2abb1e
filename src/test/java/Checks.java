/** What all tests of the project share: counting wrong answers, and telling a samovar texts. */
final class Checks {
    private int wrong = 0;
    private int made = 0;
    private String sentence = "";

    /** The words of the document that the checks from here on are of. */
    void sentence(String words) {
        sentence = words;
    }

    /** A check of the latest sentence. */
    void due(String call, long got, long want) {
        due("\"" + sentence + "\": " + call + " answered " + got + ", due is " + want, got == want);
    }

    void due(int promise, String call, long got, long want) {
        made++;
        if (got != want) {
            wrong++;
            System.out.println("promise " + promise + ": " + call + " answered " + got + ", due is " + want);
        }
    }

    void due(String what, boolean holds) {
        made++;
        if (!holds) {
            wrong++;
            System.out.println(what);
        }
    }

    void end() {
        System.out.println(made + " checks, " + wrong + " wrong");
        if (wrong != 0) {
            System.exit(1);
        }
    }

    static Samovar told(String fuel, String guests, int water, int brew) {
        Samovar s = new Samovar();
        tell(s, 0, fuel);
        tell(s, 1, guests);
        s.set(0, water);
        s.set(1, brew);
        return s;
    }

    /**
     * By the boot HEAT is 88 in minute 0 and, by birch, 100 in minute 1; by charcoal it stays so, and
     * a glass steams away in each, to minute 22, behind which 8 of 30 are left for guests.
     */
    static Samovar hotAllEvening(String guests, int brew) {
        Samovar s = told("ab3;ab3;ab3;ab3;fc3;oc3", guests, 30, brew);
        s.event(2, 0, 0);
        return s;
    }

    static void tell(Samovar s, int text, String bytes) {
        for (int i = 0; i < bytes.length(); i++) {
            s.type(text, bytes.charAt(i));
        }
    }

    static void retell(Samovar s, int text, String bytes) {
        s.wipe(text);
        tell(s, text, bytes);
    }
}
