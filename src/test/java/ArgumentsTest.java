import java.lang.reflect.Method;
import java.util.ArrayList;
import java.util.Arrays;
import java.util.List;

/**
 * Of each method that takes numbers: one too small, one too large, very small, very large for each of them, by itself,
 * is refused and changes nothing; the smallest and the largest are not refused; who asks changes nothing.
 */
public final class ArgumentsTest {
    private static final int NONE = LateMirrors.NONE;
    private static final int NOTHING = -2;
    private static final int NOW = 5;

    /** Calls that do something. */
    private static final List<String> DEEDS =
            List.of("back", "minutes", "go", "raise", "carry", "turn", "smash", "tell", "hold", "restore");

    private record Row(String name, int refused, int[] given, int[][] ranges) {
    }

    private ArgumentsTest() {
    }

    /**
     * At minute 5: the king in a (room 0), m in b, n in c; mirror 0 in a shows 5, mirror 1 in a is broken and turned,
     * mirror 2 in b shows 3. Slot 0 holds something, one thing is told, 20 bytes are on the tape.
     */
    private static LateMirrors court() {
        LateMirrors x = Checks.court("room a; room b; room c; door a b; door b c; man k 0 a; man m 2 a; man n 2 c;"
                + "goes m = 1; mirror g a k; mirror h a m; mirror i b n;");
        x.minutes(NOW);
        x.smash(1);
        x.turn(1, true);
        x.hold(0);
        x.tell(0, 0, 0, true);
        x.feed(0, 0, 0, 0, 0);
        return x;
    }

    private static List<Integer> all(LateMirrors x) {
        List<Integer> found = new ArrayList<>();
        for (int what = 0; what <= 10; what++) {
            found.add(x.count(what));
        }
        for (int man = 0; man < 3; man++) {
            found.add(x.man(man, NOW, 0));
            found.add(x.man(man, NOW, 1));
            found.add(x.man(man, NOW - 1, 0));
            found.add(x.willBe(man, 1));
        }
        for (int mirror = 0; mirror < 3; mirror++) {
            for (int what = 0; what <= 6; what++) {
                found.add(x.mirror(mirror, NOW, what));
            }
        }
        found.add(x.place());
        return found;
    }

    private static int[] to(int least, int most) {
        return new int[] {least, most};
    }

    private static int[] given(int... given) {
        return given;
    }

    private static Row row(String name, int refused, int[] given, int[]... ranges) {
        return new Row(name, refused, given, ranges);
    }

    private static final int[] ANY = null;
    private static final int[] THREE = to(0, 2);
    private static final int[] TWO = to(0, 1);
    private static final int[] BY_NOW = to(0, NOW);

    private static final Row[] ROWS = {
        row("back", NONE, given(1), to(0, 20)),
        row("man", NONE, given(0, 0, 0), THREE, BY_NOW, TWO),
        row("mirror", NONE, given(0, 0, 0), THREE, BY_NOW, to(0, 6)),
        row("minutes", NONE, given(1), to(0, 294)),
        row("go", 0, given(0, 1), THREE, to(1, 1)),
        row("go", 0, given(1, 1), ANY, to(1, 2)),
        row("go", 0, given(2, 1), ANY, to(1, 1)),
        row("raise", 0, given(1, 5), THREE, to(0, 20)),
        row("carry", 0, given(0, 2), THREE, ANY),
        row("carry", 0, given(2, 2), ANY, THREE),
        row("turn", 0, given(0, 1), THREE, ANY),
        row("smash", 0, given(0), THREE),
        row("look", NONE, given(0, 1, NONE, 0), THREE, THREE, to(NONE, 2), THREE),
        row("last", NONE, given(0, 0), THREE, THREE),
        row("visits", NONE, given(0, 0), THREE, to(NONE, 2)),
        row("alone", NONE, given(0, 0), THREE, ANY),
        row("alone", NONE, given(0, 1), THREE, ANY),
        row("together", NONE, given(0, 1, 0), THREE, ANY, TWO),
        row("together", NONE, given(1, 0, 0), ANY, THREE, ANY),
        row("facing", NONE, given(0, 1, NONE), THREE, ANY, to(NONE, 0)),
        row("facing", NONE, given(1, 0, NONE), ANY, THREE, to(NONE, NONE)),
        row("glimpses", NONE, given(0, 1, 0), THREE, ANY, TWO),
        row("glimpses", NONE, given(1, 0, 0), ANY, THREE, ANY),
        row("ghosts", NONE, given(0), THREE),
        row("oldest", NONE, given(0), TWO),
        row("shown", NONE, given(0, 0), THREE, ANY),
        row("shown", NONE, given(0, 1), THREE, ANY),
        row("deepest", NONE, given(0, 0), THREE, TWO),
        row("crowd", NONE, given(0, 0), BY_NOW, TWO),
        row("rankFor", NONE, given(0, 0), THREE, BY_NOW),
        row("view", NONE, given(0, 0, 0, 0), THREE, THREE, BY_NOW, TWO),
        row("willBe", NONE, given(0, 0), THREE, to(0, 299)),
        row("rests", NONE, given(0, 1, NONE), THREE, ANY, to(NONE, 5)),
        row("rests", NONE, given(1, 0, NONE), ANY, THREE, ANY),
        row("still", NONE, given(0, 0), THREE, BY_NOW),
        row("soonest", NONE, given(0, 0, 0), THREE, BY_NOW, TWO),
        row("seen", NONE, given(0, 0), THREE, to(0, 299)),
        row("jolt", -1000, given(0, 0, 0), THREE, to(0, 20), THREE),
        row("hidden", NONE, given(0, 0, 0), THREE, THREE, TWO),
        row("stand", NONE, given(0), TWO),
        row("turned", NONE, given(0, 0), THREE, TWO),
        row("odds", NONE, given(0, 0, 1), THREE, to(0, 299), to(1, 10)),
        row("tell", NONE, given(0, 0, 0, 1), THREE, to(0, 99), THREE, ANY),
        row("began", NONE, given(0, 0, NONE), THREE, TWO, ANY),
        row("began", NONE, given(0, 0, 0), ANY, ANY, to(NONE, 2)),
        row("hold", 0, given(0), THREE),
        row("restore", 0, given(0), to(0, 0)),
        row("count", NONE, given(0), to(0, 10)),
    };

    private static int call(LateMirrors x, String name, int[] given) throws ReflectiveOperationException {
        for (Method method : LateMirrors.class.getMethods()) {
            if (method.getName().equals(name)) {
                Object[] all = new Object[given.length];
                for (int i = 0; i < all.length; i++) {
                    boolean truth = method.getParameterTypes()[i] == boolean.class;
                    all[i] = truth ? (Object) (given[i] == 1) : (Object) given[i];
                }
                Object answer = method.invoke(x, all);
                return answer instanceof Boolean yes ? yes ? 1 : 0 : (Integer) answer;
            }
        }
        throw new NoSuchMethodException(name);
    }

    private static void oneWrong(Row row, int i, int wrong) throws ReflectiveOperationException {
        int[] given = row.given.clone();
        given[i] = wrong;
        String what = row.name + Arrays.toString(given);
        LateMirrors x = court();
        List<Integer> ahead = all(x);
        Checks.due(what + " is refused", row.refused, call(x, row.name, given));
        Checks.due(what + " changes nothing", true, ahead.equals(all(x)));
        Checks.due(what + " leaves the last thing to be undone", true, x.undo());
        Checks.due(what + " leaves it", 0, x.count(6));
    }

    private static void oneRight(Row row, int i, int right) throws ReflectiveOperationException {
        int[] given = row.given.clone();
        given[i] = right;
        String what = row.name + Arrays.toString(given);
        LateMirrors x = court();
        List<Integer> ahead = all(x);
        Checks.due(what + " is not refused", false, call(x, row.name, given) == row.refused);
        if (!DEEDS.contains(row.name)) {
            Checks.due("asking " + what + " changes nothing", true, ahead.equals(all(x)));
        }
    }

    private static void rows() throws ReflectiveOperationException {
        for (Row row : ROWS) {
            oneRight(row, 0, row.given[0]);
            for (int i = 0; i < row.ranges.length; i++) {
                if (row.ranges[i] != ANY) {
                    int least = row.ranges[i][0];
                    int most = row.ranges[i][1];
                    for (int wrong : new int[] {least - 1, most + 1, Integer.MIN_VALUE, Integer.MAX_VALUE}) {
                        oneWrong(row, i, wrong);
                    }
                    oneRight(row, i, least);
                    oneRight(row, i, most);
                }
            }
        }
    }

    /** What is so already, one and the same, not so many, nothing held: refused, too. */
    private static void refusedForWhatIs() throws ReflectiveOperationException {
        Row[] all = {
            row("raise", 0, given(0, 0)), row("raise", 0, given(1, 2)), row("raise", 0, given(2, 2)),
            row("carry", 0, given(0, 0)), row("carry", 0, given(1, 0)), row("carry", 0, given(2, 1)),
            row("turn", 0, given(0, 0)), row("turn", 0, given(1, 1)), row("turn", 0, given(2, 0)),
            row("smash", 0, given(1)), row("restore", 0, given(1)), row("restore", 0, given(2)),
            row("together", NONE, given(0, 0, 0)), row("together", NONE, given(2, 2, 1)),
            row("glimpses", NONE, given(0, 0, 0)), row("glimpses", NONE, given(2, 2, 1)),
            row("facing", NONE, given(0, 0, NONE)), row("facing", NONE, given(2, 2, 0)),
            row("rests", NONE, given(0, 0, NONE)), row("rests", NONE, given(2, 2, 0)),
            row("facing", NONE, given(0, 1, 1)), row("facing", NONE, given(1, 0, 0)),
            row("rests", NONE, given(0, 1, 6)), row("began", NONE, given(1, 1, 3)), row("go", 0, given(0, 2)),
            row("go", 0, given(2, 2)), row("go", 0, given(1, 3))};
        for (Row row : all) {
            oneWrong(row, 0, row.given[0]);
        }
        LateMirrors x = court();
        Checks.due("minutes(0) is no thing done", NOW, x.minutes(0));
        Checks.due("minutes(0) changes nothing", true, all(court()).equals(all(x)));
    }

    /** Where NONE and -2 could both be told, it is NONE. */
    private static void noneAheadOfNothing() {
        LateMirrors x = court();
        x.turn(0, true);
        x.turn(2, true);
        x.smash(0);
        int[] nothing = {x.mirror(1, 5, 4), x.mirror(1, 5, 5), x.look(0, 2, NONE, 0), x.look(0, 0, 0, 0), x.last(0, 1),
            x.together(0, 2, 1), x.glimpses(0, 2, 1), x.oldest(0), x.oldest(1), x.deepest(0, 0), x.deepest(0, 1),
            x.rankFor(0, 5), x.view(0, 2, 5, 0), x.view(0, 2, 5, 1), x.soonest(2, 5, 0), x.soonest(2, 5, 1),
            new LateMirrors().stand(0), new LateMirrors().crowd(0, 0), new LateMirrors().oldest(0)};
        for (int i = 0; i < nothing.length; i++) {
            Checks.due("-2 by itself, " + i, NOTHING, nothing[i]);
        }
        int[] none = {x.mirror(1, 6, 4), x.mirror(1, -1, 5), x.mirror(3, 5, 4), x.look(0, 2, NONE, 3),
            x.look(0, 2, 3, 0), x.look(0, 2, -2, 0), x.look(0, 0, 0, -1), x.look(0, 0, 3, 0), x.look(3, 3, 3, 0),
            x.last(3, 1), x.last(0, 3), x.together(0, 2, 2), x.together(0, 3, 1), x.glimpses(0, 2, 2),
            x.glimpses(0, 3, 1), x.oldest(2), x.oldest(-1), x.deepest(0, 2), x.deepest(3, 0), x.rankFor(0, 6),
            x.rankFor(0, -1), x.rankFor(3, 5), x.view(0, 2, 6, 0), x.view(0, 3, 5, 0), x.view(3, 2, 5, 0),
            x.view(0, 2, 5, 2), x.soonest(2, 6, 0), x.soonest(3, 5, 0), x.soonest(2, 5, 2), new LateMirrors().stand(2),
            new LateMirrors().crowd(0, 2), new LateMirrors().crowd(1, 0), new LateMirrors().oldest(2)};
        for (int i = 0; i < none.length; i++) {
            Checks.due("NONE ahead of -2, " + i, NONE, none[i]);
        }
        LateMirrors y = Checks.court("room a; room b; man k 0 a; mirror g a k;");
        Checks.due("no way", NOTHING, y.hidden(0, 1, 0));
        Checks.due("no way and no such what", NONE, y.hidden(0, 1, 2));
        Checks.due("no way and no such ROOM", NONE, y.hidden(0, 2, 0));
    }

    public static void main(String[] args) throws ReflectiveOperationException {
        rows();
        refusedForWhatIs();
        noneAheadOfNothing();
        Checks.end();
    }
}
