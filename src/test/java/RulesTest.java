import java.lang.reflect.Field;
import java.lang.reflect.Method;
import java.lang.reflect.Modifier;
import java.nio.file.Files;
import java.nio.file.Path;
import java.util.ArrayList;
import java.util.Arrays;
import java.util.HashSet;
import java.util.List;
import java.util.Random;
import java.util.Set;
import java.util.TreeSet;
import java.util.regex.Matcher;
import java.util.regex.Pattern;

/** The public face, the rules of LANGUAGE.md that can be looked for, and that no call ever throws. */
public final class RulesTest {
    private static final String FACE = "at(int,int) ask() back() better(int,int) chance(int,int,int) come(int,int)"
        + " copy(int,int,int,int,int) count(int) digest() event(int,int,int) evenings(int,int,int) fault(int) fill(int)"
        + " first() forget() get(int,int,int) guest(int,int) hottest(int) is(int,int,int) kind(int) line(int) lose(int)"
        + " never() piece(int,int) put(int,int,int,int) read(int) seen(int,int) set(int,int) sheet(int,int,int) spare(int)"
        + " sum(int) thirst() type(int,int) undo(int) waited(int) waters() wipe(int) write(int,int)";
    private static final String[] FORBIDDEN = {"throw", "try", "catch", "finally", "synchronized", "assert", "protected",
        "volatile", "native", "System.currentTimeMillis", "System.nanoTime", "System.out", "Random", "Thread", "->", "::",
        "equals", "hashCode", "toString", "Exact", "var"};

    private static final Checks checks = new Checks();

    public static void main(String[] args) throws Exception {
        face();
        constants();
        nestedClasses();
        words();
        methodLengths();
        neverThrows();
        checks.end();
    }

    private static String signature(Method m) {
        List<String> types = new ArrayList<>();
        for (Class<?> type : m.getParameterTypes()) {
            types.add(type.getSimpleName());
        }
        return m.getName() + "(" + String.join(",", types) + ")";
    }

    private static void face() {
        Set<String> shown = new TreeSet<>();
        Set<String> names = new HashSet<>();
        for (Method m : Samovar.class.getDeclaredMethods()) {
            if (!Modifier.isPrivate(m.getModifiers())) {
                shown.add(signature(m));
                names.add(m.getName());
                boolean isLong = m.getName().equals("chance") || m.getName().equals("digest");
                checks.due(m + " is not public, or answers another type",
                    Modifier.isPublic(m.getModifiers()) && m.getReturnType() == (isLong ? long.class : int.class));
            }
        }
        checks.due("the face is " + shown, shown.equals(new TreeSet<>(Arrays.asList(FACE.split(" ")))));
        for (Class<?> type : withNested()) {
            for (Method m : type.getDeclaredMethods()) {
                boolean own = Modifier.isPrivate(m.getModifiers()) || type != Samovar.class;
                checks.due(m + " bears the name of a public method", !own || !names.contains(m.getName()));
                checks.due(m + " takes more than seven", m.getParameterCount() <= 7);
            }
        }
        checks.due("the class is public and final", Modifier.isPublic(Samovar.class.getModifiers())
            && Modifier.isFinal(Samovar.class.getModifiers()));
        checks.due("one constructor, without arguments, public", Samovar.class.getDeclaredConstructors().length == 1
            && Samovar.class.getConstructors().length == 1
            && Samovar.class.getConstructors()[0].getParameterCount() == 0);
    }

    private static void constants() {
        checks.due("NONE", Samovar.NONE == -1);
        checks.due("BAD", Samovar.BAD == -2);
        checks.due("NOT", Samovar.NOT == -3);
        checks.due("FULL", Samovar.FULL == -4);
        Set<String> shown = new TreeSet<>();
        for (Field f : Samovar.class.getDeclaredFields()) {
            if (!Modifier.isPrivate(f.getModifiers())) {
                shown.add(f.getName());
            }
        }
        checks.due("the constants are " + shown, shown.equals(Set.of("NONE", "BAD", "NOT", "FULL")));
    }

    private static List<Class<?>> withNested() {
        List<Class<?>> all = new ArrayList<>(Arrays.asList(Samovar.class.getDeclaredClasses()));
        all.add(Samovar.class);
        return all;
    }

    private static void nestedClasses() {
        List<Class<?>> all = withNested();
        checks.due("more than twelve classes", all.size() <= 12);
        for (Class<?> type : all) {
            int fields = 0;
            for (Field f : type.getDeclaredFields()) {
                if (Modifier.isStatic(f.getModifiers())) {
                    checks.due(f + " is static and not final", Modifier.isFinal(f.getModifiers()));
                } else {
                    fields++;
                }
            }
            checks.due(type + " has more than twenty fields", fields <= 20);
            checks.due(type + " is not static", type == Samovar.class || Modifier.isStatic(type.getModifiers()));
        }
    }

    private static String source() throws Exception {
        return Files.readString(Path.of("src/main/java/Samovar.java"));
    }

    private static void words() throws Exception {
        String source = source();
        String code = source.replaceAll("(?s)/\\*.*?\\*/", "").replaceAll("//[^\n]*", "");
        for (String word : FORBIDDEN) {
            String edge = Character.isLetter(word.charAt(0)) ? "\\b" : "";
            boolean there = Pattern.compile(edge + Pattern.quote(word) + edge).matcher(code).find();
            checks.due("the source has '" + word + "'", !there);
        }
        Matcher imports = Pattern.compile("import ([^;]+);").matcher(code);
        while (imports.find()) {
            checks.due("import of " + imports.group(1), imports.group(1).equals("java.util.Arrays"));
        }
        checks.due("a sign above 127", source.chars().allMatch(c -> c < 128));
    }

    private static void methodLengths() throws Exception {
        String[] lines = source().split("\n");
        int start = -1;
        for (int i = 0; i < lines.length; i++) {
            String line = lines[i];
            if (start < 0 && line.matches(" {4}( {4})?\\w.*\\) \\{")) {
                start = i;
            } else if (start >= 0 && line.equals(lines[start].replaceAll("\\S.*", "") + "}")) {
                checks.due(lines[start].trim() + " has more than sixty lines", i - start < 60);
                start = -1;
            }
        }
    }

    private static void neverThrows() throws Exception {
        List<Method> methods = new ArrayList<>();
        for (Method m : Samovar.class.getDeclaredMethods()) {
            if (Modifier.isPublic(m.getModifiers()) && !m.getName().equals("digest")) {
                methods.add(m);
            }
        }
        methods.sort((a, b) -> signature(a).compareTo(signature(b)));
        Random random = new Random(3);
        for (int run = 0; run < 300; run++) {
            Samovar s = new Samovar();
            for (int i = 0; i < 512; i++) {
                Method m = methods.get(random.nextInt(methods.size()));
                Object[] args = new Object[m.getParameterCount()];
                for (int k = 0; k < args.length; k++) {
                    args[k] = random.nextInt(4) == 0 ? random.nextInt() >> random.nextInt(32) : random.nextInt(10) - 1;
                }
                try {
                    m.invoke(s, args);
                } catch (ReflectiveOperationException e) {
                    checks.due(m.getName() + Arrays.toString(args) + " threw " + e.getCause(), false);
                }
            }
        }
        checks.due("no call threw", true);
    }
}
