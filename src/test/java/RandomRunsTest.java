import java.lang.reflect.Method;
import java.nio.charset.StandardCharsets;
import java.util.ArrayList;
import java.util.Arrays;
import java.util.Comparator;
import java.util.List;
import java.util.Map;
import java.util.Random;

/** The same calls on the class and on the Model, by fixed seeds: the answers must be the same. */
public final class RandomRunsTest {
    private static final int CALLS = 500;

    private static final class Pair {
        final LateMirrors court = new LateMirrors();
        final Model model = new Model();
        final List<String> calls = new ArrayList<>();
        boolean differs;

        int call(Method[] methods, int[] args) throws ReflectiveOperationException {
            Object[] given = new Object[args.length];
            for (int i = 0; i < args.length; i++) {
                boolean truth = methods[0].getParameterTypes()[i] == boolean.class;
                given[i] = truth ? (Object) ((args[i] & 1) == 1) : (Object) args[i];
            }
            int got = number(methods[0].invoke(court, given));
            int due = number(methods[1].invoke(model, given));
            calls.add(methods[0].getName() + Arrays.toString(given) + " answered " + got);
            if (got != due) {
                differs = true;
                System.out.println(String.join("\n", calls.subList(Math.max(0, calls.size() - 30), calls.size())));
                System.out.println("due is " + due);
            }
            return got;
        }
    }

    private static int number(Object answer) {
        return answer instanceof Boolean truth ? truth ? 1 : 0 : (Integer) answer;
    }

    private static final List<Method[]> METHODS = new ArrayList<>();
    private static final List<String> DEEDS = List.of("minutes", "minutes", "go", "raise", "carry", "turn", "tell");

    private static Method[] methods(String name) {
        return METHODS.stream().filter(m -> m[0].getName().equals(name)).findFirst().orElseThrow();
    }

    private static void findMethods() throws NoSuchMethodException {
        for (Method method : LateMirrors.class.getDeclaredMethods()) {
            if (java.lang.reflect.Modifier.isPublic(method.getModifiers())) {
                METHODS.add(new Method[] {method, Model.class.getMethod(method.getName(), method.getParameterTypes())});
            }
        }
        METHODS.sort(Comparator.comparing(m -> m[0].getName()));
    }

    /**
     * What each method takes: m a man, g a mirror, r a room, R a room or NONE, t a minute by now, T one of the text,
     * n minutes, w a what, i a place in a list or NONE, G a mirror or NONE, d a door, k a rank, K how many are known,
     * s a slot or seeds, b a truth.
     */
    private static final Map<String, String> TAKES = Map.ofEntries(Map.entry("man", "mtw"),
            Map.entry("mirror", "gtw"), Map.entry("minutes", "n"), Map.entry("go", "md"), Map.entry("raise", "mk"),
            Map.entry("carry", "gr"), Map.entry("turn", "gb"), Map.entry("smash", "g"), Map.entry("look", "ggGw"),
            Map.entry("last", "mr"), Map.entry("visits", "mR"), Map.entry("alone", "mb"),
            Map.entry("together", "mmw"), Map.entry("facing", "ggi"), Map.entry("glimpses", "mmw"),
            Map.entry("ghosts", "r"), Map.entry("oldest", "w"), Map.entry("shown", "gb"), Map.entry("deepest", "gw"),
            Map.entry("crowd", "tw"), Map.entry("rankFor", "gt"), Map.entry("view", "mrtw"), Map.entry("willBe", "mn"),
            Map.entry("rests", "mmi"), Map.entry("still", "rt"), Map.entry("soonest", "rtw"), Map.entry("seen", "mn"),
            Map.entry("jolt", "mkw"), Map.entry("hidden", "rrw"), Map.entry("stand", "w"), Map.entry("turned", "mw"),
            Map.entry("odds", "gns"), Map.entry("tell", "gTmb"), Map.entry("began", "mKi"), Map.entry("hold", "s"),
            Map.entry("restore", "s"), Map.entry("count", "c"), Map.entry("back", "i"), Map.entry("feed", "iiiii"));

    private static int argument(Random random, Pair pair, char sort) {
        int now = pair.court.count(4);
        if (random.nextInt(30) == 0) {
            return random.nextInt(20) == 0 ? random.nextInt() : random.nextInt(28) - 4;
        }
        return switch (sort) {
            case 'm' -> random.nextInt(Math.max(1, pair.court.count(2)));
            case 'g' -> random.nextInt(Math.max(1, pair.court.count(3)));
            case 'G' -> random.nextInt(1 + pair.court.count(3)) - 1;
            case 'r' -> random.nextInt(Math.max(1, pair.court.count(0)));
            case 'R' -> random.nextInt(1 + pair.court.count(0)) - 1;
            case 't' -> random.nextInt(3) == 0 ? random.nextInt(now + 1) : Math.max(0, now - random.nextInt(12));
            case 'T' -> random.nextInt(random.nextBoolean() ? 100 : 10);
            case 'n' -> random.nextInt(random.nextInt(12) == 0 ? 300 : 7);
            case 'w' -> random.nextInt(random.nextInt(5) == 0 ? 8 : 2);
            case 'i' -> random.nextInt(6) - 1;
            case 'd' -> 1 + random.nextInt(3);
            case 'k' -> random.nextInt(21);
            case 'K' -> random.nextInt(1 + pair.court.count(9));
            case 's' -> random.nextInt(random.nextInt(3) == 0 ? 11 : 3);
            case 'c' -> random.nextInt(12);
            default -> random.nextInt(2);
        };
    }

    private static void feed(Pair pair, String text) throws ReflectiveOperationException {
        byte[] bytes = text.getBytes(StandardCharsets.ISO_8859_1);
        int fed = (bytes.length + 19) / 20 * 20;
        java.nio.ByteBuffer words = java.nio.ByteBuffer.wrap(Arrays.copyOf(bytes, fed));
        for (int i = 0; i < fed; i += 20) {
            int[] args = {words.getInt(), words.getInt(), words.getInt(), words.getInt(), words.getInt()};
            pair.call(methods("feed"), args);
        }
        pair.call(methods("back"), new int[] {fed - bytes.length});
    }

    private static boolean readFaults(Pair pair, String text) throws ReflectiveOperationException {
        feed(pair, text);
        boolean faults = pair.call(methods("read"), new int[0]) != 0;
        pair.call(methods("place"), new int[0]);
        return faults;
    }

    private static boolean courtRun(int seed) throws ReflectiveOperationException {
        Random random = new Random(seed);
        Pair pair = new Pair();
        readFaults(pair, new RandomText(random).whole());
        // an object is used for 512 calls at most, and the longest text takes a hundred and three
        for (int n = 0; n < CALLS - 103 && !pair.differs; n++) {
            boolean deed = random.nextInt(4) == 0;
            Method[] methods = deed ? methods(DEEDS.get(random.nextInt(DEEDS.size())))
                    : METHODS.get(random.nextInt(METHODS.size()));
            String name = methods[0].getName();
            boolean rare = List.of("read", "feed", "smash", "forget", "restore").contains(name);
            if (rare && random.nextInt(name.equals("read") ? 100 : 4) > 0) {
                continue;
            }
            int[] args = new int[methods[0].getParameterCount()];
            for (int i = 0; i < args.length; i++) {
                args[i] = argument(random, pair, TAKES.get(name).charAt(i));
            }
            pair.call(methods, args);
        }
        return !pair.differs;
    }

    /** Texts with and without faults, one behind the other, read by the same objects. */
    private static boolean textRun(int seed) throws ReflectiveOperationException {
        Random random = new Random(seed);
        Pair pair = new Pair();
        for (int n = 0; n < 40 && pair.calls.size() < CALLS - 130 && !pair.differs; n++) {
            RandomText text = new RandomText(random);
            boolean faults = readFaults(pair, random.nextInt(6) == 0 ? text.whole() : text.spoilt());
            for (int what = 0; what < 11; what++) {
                pair.call(methods("count"), new int[] {what});
            }
            if (!faults) {
                pair.call(methods("minutes"), new int[] {random.nextInt(20)});
            }
            for (int i = 0; i < 3; i++) {
                pair.call(methods("willBe"), new int[] {i, random.nextInt(9)});
                pair.call(methods("mirror"), new int[] {i, 0, 1});
            }
            pair.call(methods("turn"), new int[] {random.nextInt(4), 1});
            pair.call(methods("hold"), new int[] {random.nextInt(3)});
        }
        return !pair.differs;
    }

    public static void main(String[] args) throws ReflectiveOperationException {
        int runs = args.length > 0 ? Integer.parseInt(args[0]) : 150;
        int first = args.length > 1 ? Integer.parseInt(args[1]) : 1;
        findMethods();
        for (int seed = first; seed < first + runs; seed++) {
            Checks.due("the court's run " + seed, true, courtRun(seed));
            Checks.due("the texts' run " + seed, true, textRun(seed));
        }
        Checks.end();
    }
}
