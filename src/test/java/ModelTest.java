import java.lang.reflect.Method;
import java.util.ArrayList;
import java.util.List;
import java.util.Random;

/** All promises: runs of calls by a fixed seed, answered by the class and by the model alike. */
public final class ModelTest {
    private static final String[] TELLING = {"type", "wipe", "undo", "set", "event", "back", "read", "seen", "forget",
        "sheet", "lose", "put", "copy", "write"};
    private static final String[] ASKING = {"fault", "piece", "guest", "at", "is", "line", "sum", "first", "hottest",
        "waited", "thirst", "better", "fill", "come", "spare", "never", "waters", "kind", "ask", "chance", "evenings",
        "get", "count"};
    private static final int[] EDGES = {Integer.MIN_VALUE, -2, -1, 8, 9, 10, 16, 23, 24, 30, 31, 40, 41, 60, 61, 255, 256,
        Integer.MAX_VALUE};

    private final Checks checks = new Checks();
    private final Random random = new Random(20261117);
    private Samovar samovar;
    private SamovarModel model;
    private List<String> run;

    public static void main(String[] args) throws Exception {
        ModelTest test = new ModelTest();
        for (int i = 0; i < 600; i++) {
            test.oneRun(i);
        }
        test.checks.end();
    }

    private void oneRun(int number) throws Exception {
        samovar = new Samovar();
        model = new SamovarModel();
        run = new ArrayList<>();
        if (number % 4 != 0) {
            tellAll();
        }
        for (int i = 0; i < 60; i++) {
            String[] names = random.nextInt(3) == 0 ? TELLING : ASKING;
            call(names[random.nextInt(names.length)]);
        }
        if (number % 10 == 0) {
            both("digest");
        }
    }

    /** Texts, water, brew, events and what was seen, as an evening may have them. */
    private void tellAll() throws Exception {
        text(0, random.nextInt(9), "kbc", 3);
        text(1, random.nextInt(9), "wd", 4);
        both("set", 0, random.nextInt(31));
        both("set", 1, random.nextInt(41));
        for (int i = random.nextInt(6); i > 0; i--) {
            both("event", random.nextInt(3), random.nextInt(24), random.nextInt(10));
        }
        for (int i = random.nextInt(3); i > 0; i--) {
            int minute = random.nextInt(24);
            both("seen", minute, samovar.at(minute, 4));
        }
    }

    private void text(int text, int entries, String kinds, int most) throws Exception {
        for (int i = 0; i < entries; i++) {
            if (i > 0) {
                both("type", text, ';');
            }
            both("type", text, 'a' + (random.nextBoolean() ? random.nextInt(6) : random.nextInt(24)));
            both("type", text, kinds.charAt(random.nextInt(kinds.length())));
            both("type", text, '1' + random.nextInt(most));
        }
    }

    private void call(String name) throws Exception {
        int n = method(Samovar.class, name).getParameterCount();
        int[] args = new int[n];
        for (int i = 0; i < n; i++) {
            args[i] = argument(name, i);
        }
        both(name, args);
    }

    private int argument(String name, int place) {
        if (random.nextInt(25) == 0) {
            return EDGES[random.nextInt(EDGES.length)];
        }
        switch (name) {
            case "type": return place == 0 ? random.nextInt(2) : "abcxkwd1234;".charAt(random.nextInt(12));
            case "set": return place == 0 ? random.nextInt(2) : random.nextInt(42);
            case "event": return random.nextInt(place == 0 ? 3 : place == 1 ? 24 : 10);
            case "evenings": return place == 0 ? random.nextInt() : random.nextInt(place == 1 ? 9 : 2);
            case "chance": return random.nextInt(place == 0 ? 17 : place == 1 ? 4 : 2);
            case "sheet": return random.nextInt(place == 0 ? 4 : place == 1 ? 3 : 30);
            case "put": return place == 3 ? random.nextInt() >> random.nextInt(32) : random.nextInt(place == 0 ? 4 : 3);
            case "copy": return random.nextInt(place == 0 || place == 2 ? 4 : 6);
            case "at": case "is": case "line": case "seen":
                return place == 0 ? random.nextInt(24) : random.nextInt(name.equals("at") ? 6 : 2);
            case "count": return random.nextInt(9);
            default: return random.nextInt(place == 0 ? 5 : 3);
        }
    }

    private static Method method(Class<?> type, String name) {
        for (Method m : type.getDeclaredMethods()) {
            if (m.getName().equals(name) && !java.lang.reflect.Modifier.isPrivate(m.getModifiers())) {
                return m;
            }
        }
        throw new IllegalStateException("no method " + name);
    }

    private void both(String name, int... args) throws Exception {
        Object[] boxed = new Object[args.length];
        StringBuilder call = new StringBuilder(name).append("(");
        for (int i = 0; i < args.length; i++) {
            boxed[i] = args[i];
            call.append(i == 0 ? "" : ", ").append(args[i]);
        }
        run.add(call.append(")").toString());
        long got = ((Number) method(Samovar.class, name).invoke(samovar, boxed)).longValue();
        long want = (Long) method(SamovarModel.class, name).invoke(model, boxed);
        checks.due(call + " answered " + got + ", the model " + want + ", behind " + run, got == want);
    }
}
