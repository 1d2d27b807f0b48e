import java.util.ArrayList;
import java.util.HashMap;
import java.util.HashSet;
import java.util.List;
import java.util.Map;
import java.util.Set;
import java.util.TreeSet;
import java.util.function.IntPredicate;

/** The document once more, written as plainly as can be and without regard to the rules of the class. */
public final class Model {
    private static final int NONE = -1;
    private static final int NOTHING = -2;

    // ---- the text

    private static final class Fault extends RuntimeException {
        private static final long serialVersionUID = 1;
        final int kind;
        final int place;

        Fault(int kind, int place) {
            super(null, null, false, false);
            this.kind = kind;
            this.place = place;
        }
    }

    private record Token(String text, int place) {
    }

    private interface Value {
        int of(int[] vars);
    }

    private static final class DividedByZero extends RuntimeException {
        private static final long serialVersionUID = 1;

        DividedByZero() {
            super(null, null, false, false);
        }
    }

    private static final Set<String> WORDS = Set.of("room", "door", "man", "goes", "mirror", "late", "breaks",
            "seed", "if", "then", "else", "minute", "here", "rank", "number", "ways", "with");
    private static final List<String> VARS = List.of("minute", "here", "rank", "number", "ways", "with");

    private static final class Parser {
        final String tape;
        int at;
        int taken;
        final Map<String, Integer> sorts = new HashMap<>();
        /** Checks and deeds of the second going through, in the order of their places. */
        final List<Runnable> later = new ArrayList<>();
        final Told told = new Told();
        final Map<String, Integer> rooms = new HashMap<>();
        final Map<String, Integer> men = new HashMap<>();
        final Set<String> names = new HashSet<>();
        int ifs;

        Parser(String tape) {
            this.tape = tape;
        }

        Token peek() {
            while (at < tape.length() && " \t\n\r".indexOf(tape.charAt(at)) >= 0) {
                at++;
            }
            if (at == tape.length()) {
                return new Token("", at);
            }
            int end = at + 1;
            for (String all : List.of("abcdefghijklmnopqrstuvwxyz", "0123456789")) {
                if (all.indexOf(tape.charAt(at)) >= 0) {
                    while (end < tape.length() && all.indexOf(tape.charAt(end)) >= 0) {
                        end++;
                    }
                }
            }
            return new Token(tape.substring(at, end), at);
        }

        boolean next(String... any) {
            return List.of(any).contains(peek().text);
        }

        Token take(boolean fits) {
            Token token = peek();
            if (!fits) {
                throw new Fault(1, token.place);
            }
            taken++;
            if (taken > 400) {
                throw new Fault(2, token.place);
            }
            at = token.place + token.text.length();
            return token;
        }

        Token takeWord(String word) {
            return take(next(word));
        }

        Token takeName() {
            String text = peek().text;
            return take(text.matches("[a-z]{1,8}") && !WORDS.contains(text));
        }

        Token takeInt() {
            return take(peek().text.matches("[0-9]{1,4}"));
        }

        void sort(Token first, int most) {
            if (sorts.merge(first.text, 1, Integer::sum) > most) {
                throw new Fault(2, first.place);
            }
        }

        Told parse() {
            while (!peek().text.isEmpty()) {
                Token first = take(next("room", "door", "man", "goes", "mirror", "late", "breaks", "seed"));
                switch (first.text) {
                    case "room" -> room(first);
                    case "door" -> door(first);
                    case "man" -> man(first);
                    case "mirror" -> mirror(first);
                    case "goes" -> {
                        Token name = takeName();
                        Value law = law();
                        later.add(() -> told.men.get(numberOf(men, name)).goes = law);
                    }
                    case "late" -> {
                        Value law = law();
                        later.add(() -> told.late = law);
                    }
                    case "breaks" -> {
                        Token n = takeInt();
                        later.add(() -> told.breaks = number(n, 100));
                    }
                    default -> {
                        Token n = takeInt();
                        later.add(() -> told.seed = number(n, 9999));
                    }
                }
                takeWord(";");
            }
            later.forEach(Runnable::run);
            return told;
        }

        void room(Token first) {
            sort(first, 8);
            Token name = takeName();
            later.add(() -> {
                declare(name);
                rooms.put(name.text, told.rooms++);
            });
        }

        void door(Token first) {
            sort(first, 12);
            Token one = takeName();
            Token two = takeName();
            later.add(() -> {
                int a = numberOf(rooms, one);
                int b = numberOf(rooms, two);
                if (a == b) {
                    throw new Fault(3, two.place);
                }
                told.doors.add(new int[] {a, b});
            });
        }

        void man(Token first) {
            sort(first, 6);
            Token name = takeName();
            Token rank = takeInt();
            Token room = takeName();
            later.add(() -> {
                declare(name);
                Man man = new Man();
                man.rank = number(rank, 20);
                man.room = numberOf(rooms, room);
                men.put(name.text, told.men.size());
                told.men.add(man);
            });
        }

        void mirror(Token first) {
            sort(first, 8);
            Token name = takeName();
            Token room = takeName();
            Token man = takeName();
            later.add(() -> {
                declare(name);
                told.mirrors.add(new int[] {numberOf(rooms, room), numberOf(men, man)});
            });
        }

        void declare(Token name) {
            if (!names.add(name.text)) {
                throw new Fault(3, name.place);
            }
        }

        int numberOf(Map<String, Integer> sort, Token name) {
            if (!sort.containsKey(name.text)) {
                throw new Fault(4, name.place);
            }
            return sort.get(name.text);
        }

        int number(Token n, int most) {
            int number = Integer.parseInt(n.text);
            if (number > most) {
                throw new Fault(5, n.place);
            }
            return number;
        }

        Value law() {
            takeWord("=");
            ifs = 0;
            return choice();
        }

        Value choice() {
            if (!next("if")) {
                return sum(0);
            }
            Token word = takeWord("if");
            if (++ifs > 4) {
                throw new Fault(2, word.place);
            }
            Value left = sum(0);
            takeWord("<");
            Value right = sum(0);
            takeWord("then");
            Value yes = sum(0);
            takeWord("else");
            Value no = choice();
            return v -> left.of(v) < right.of(v) ? yes.of(v) : no.of(v);
        }

        Value sum(int brackets) {
            Value value = product(brackets);
            while (next("+", "-")) {
                boolean plus = take(true).text.equals("+");
                Value left = value;
                Value right = product(brackets);
                value = plus ? v -> left.of(v) + right.of(v) : v -> left.of(v) - right.of(v);
            }
            return value;
        }

        Value product(int brackets) {
            Value value = unit(brackets);
            while (next("*", "/")) {
                boolean times = take(true).text.equals("*");
                Value left = value;
                Value right = unit(brackets);
                value = times ? v -> left.of(v) * right.of(v) : v -> quotient(left.of(v), right.of(v));
            }
            return value;
        }

        static int quotient(int left, int right) {
            if (right == 0) {
                throw new DividedByZero();
            }
            return (int) ((long) left / right);
        }

        Value unit(int brackets) {
            String text = peek().text;
            if (text.equals("(")) {
                Token open = takeWord("(");
                if (brackets == 6) {
                    throw new Fault(2, open.place);
                }
                Value inner = sum(brackets + 1);
                takeWord(")");
                return inner;
            }
            int var = VARS.indexOf(text);
            if (var >= 0) {
                take(true);
                return v -> v[var];
            }
            int number = Integer.parseInt(takeInt().text);
            return v -> number;
        }
    }

    private static int valueOf(Value law, int... vars) {
        try {
            return law.of(vars);
        } catch (DividedByZero e) {
            return 0;
        }
    }

    private static final class Man {
        int rank;
        int room;
        Value goes = v -> 0;
    }

    private static final class Told {
        int rooms;
        final List<int[]> doors = new ArrayList<>();
        final List<Man> men = new ArrayList<>();
        final List<int[]> mirrors = new ArrayList<>();
        Value late = v -> v[2];
        int breaks;
        int seed;

        List<Integer> ways(int room) {
            List<Integer> found = new ArrayList<>();
            for (int[] door : doors) {
                if (door[0] == room) {
                    found.add(door[1]);
                } else if (door[1] == room) {
                    found.add(door[0]);
                }
            }
            return found;
        }

        boolean lotBreaks(int seed, int minute, int mirror) {
            int h = seed;
            for (int it : new int[] {43, 8 * minute + mirror}) {
                h = (h ^ it) * 1103515245 + 12345;
                h = h ^ (h >>> 15);
            }
            return (h >>> 1) % 100 < breaks;
        }
    }

    // ---- the court

    private static final class Row implements Cloneable {
        int[] room;
        int[] rank;
        int[] hang;
        int[] late;
        boolean[] wall;

        Row copy() {
            Row row = new Row();
            row.room = room.clone();
            row.rank = rank.clone();
            row.hang = hang.clone();
            row.late = late.clone();
            row.wall = wall.clone();
            return row;
        }
    }

    private static final class State {
        final Told told;
        final List<Row> rows = new ArrayList<>();
        Integer[] brokenAt;
        int[] frozen;

        State(Told told) {
            this.told = told;
            brokenAt = new Integer[told.mirrors.size()];
            frozen = new int[told.mirrors.size()];
            Row row = new Row();
            row.room = told.men.stream().mapToInt(m -> m.room).toArray();
            row.rank = told.men.stream().mapToInt(m -> m.rank).toArray();
            row.hang = told.mirrors.stream().mapToInt(m -> m[0]).toArray();
            row.late = new int[told.mirrors.size()];
            row.wall = new boolean[told.mirrors.size()];
            rows.add(row);
            reckonLates();
        }

        State(State from) {
            told = from.told;
            for (Row row : from.rows) {
                rows.add(row.copy());
            }
            brokenAt = from.brokenAt.clone();
            frozen = from.frozen.clone();
        }

        int minute() {
            return rows.size() - 1;
        }

        Row now() {
            return rows.get(minute());
        }

        int lateWith(int mirror, int rank) {
            int room = now().hang[mirror];
            int men = menIn(room, minute()).size();
            int late = valueOf(told.late, minute(), room, rank, mirror, told.ways(room).size(), men);
            return late < 0 ? 0 : late > 240 ? 240 : late;
        }

        void reckonLates() {
            for (int m = 0; m < told.mirrors.size(); m++) {
                now().late[m] = lateWith(m, now().rank[told.mirrors.get(m)[1]]);
            }
        }

        Set<Integer> menIn(int room, int t) {
            Set<Integer> found = new TreeSet<>();
            for (int man = 0; man < told.men.size(); man++) {
                if (rows.get(t).room[man] == room) {
                    found.add(man);
                }
            }
            return found;
        }

        boolean broken(int mirror, int t) {
            return brokenAt[mirror] != null && brokenAt[mirror] <= t;
        }

        int shows(int mirror, int t) {
            int minute = broken(mirror, t) ? frozen[mirror] : t - rows.get(t).late[mirror];
            if (minute < 0) {
                return NOTHING;
            }
            return rows.get(t).wall[mirror] || rows.get(minute).wall[mirror] ? NOTHING : minute;
        }

        int roomShown(int mirror, int t) {
            int minute = shows(mirror, t);
            return minute == NOTHING ? NOTHING : rows.get(minute).hang[mirror];
        }

        Set<Integer> menShown(int mirror, int t) {
            int minute = shows(mirror, t);
            return minute == NOTHING ? Set.of() : menIn(rows.get(minute).hang[mirror], minute);
        }

        Set<Integer> menShownIn(int room, int t) {
            Set<Integer> found = new TreeSet<>();
            for (int m = 0; m < told.mirrors.size(); m++) {
                if (rows.get(t).hang[m] == room) {
                    found.addAll(menShown(m, t));
                }
            }
            return found;
        }

        void breakNow(int mirror) {
            frozen[mirror] = shows(mirror, minute());
            brokenAt[mirror] = minute();
        }

        void goOn() {
            Row next = now().copy();
            for (int man = 0; man < told.men.size(); man++) {
                int room = now().room[man];
                List<Integer> ways = told.ways(room);
                int with = menIn(room, minute()).size() - 1;
                int value = valueOf(told.men.get(man).goes, minute(), room, now().rank[man], man, ways.size(), with);
                int door = value % (ways.size() + 1);
                if (door > 0) {
                    next.room[man] = ways.get(door - 1);
                }
            }
            rows.add(next);
            reckonLates();
            for (int m = 0; m < told.mirrors.size(); m++) {
                if (brokenAt[m] == null && told.lotBreaks(told.seed, minute(), m)) {
                    breakNow(m);
                }
            }
        }

        /** This one and those that would come, to that minute. */
        State goneTo(int minute) {
            State state = new State(this);
            while (state.minute() < Math.min(minute, 299)) {
                state.goOn();
            }
            return state;
        }
    }

    private record Glance(int mirror, int minute, int man, boolean there) {
    }

    private final StringBuilder tape = new StringBuilder();
    private int place = NONE;
    private Told told = new Told();
    private State state = new State(told);
    private final List<State> past = new ArrayList<>();
    private final State[] slots = new State[3];
    private final List<Glance> glances = new ArrayList<>();

    private boolean man(int man) {
        return man >= 0 && man < told.men.size();
    }

    private boolean mirror(int mirror) {
        return mirror >= 0 && mirror < told.mirrors.size();
    }

    private boolean room(int room) {
        return room >= 0 && room < told.rooms;
    }

    private boolean by(int minute) {
        return minute >= 0 && minute <= now();
    }

    private static boolean to(int i, int most) {
        return i >= 0 && i <= most;
    }

    private int now() {
        return state.minute();
    }

    private static int bits(Set<Integer> set) {
        return set.stream().mapToInt(i -> 1 << i).sum();
    }

    public int feed(int a, int b, int c, int d, int e) {
        if (tape.length() + 20 > 2000) {
            return NONE;
        }
        for (int word : new int[] {a, b, c, d, e}) {
            for (byte one : java.nio.ByteBuffer.allocate(4).putInt(word).array()) {
                tape.append((char) (one & 255));
            }
        }
        return tape.length();
    }

    public int back(int n) {
        if (!to(n, tape.length())) {
            return NONE;
        }
        tape.setLength(tape.length() - n);
        return tape.length();
    }

    public int read() {
        String text = tape.toString();
        tape.setLength(0);
        place = NONE;
        Told next;
        try {
            next = new Parser(text).parse();
        } catch (Fault fault) {
            place = fault.place;
            return fault.kind;
        }
        told = next;
        state = new State(told);
        past.clear();
        glances.clear();
        java.util.Arrays.fill(slots, null);
        return 0;
    }

    public int place() {
        return place;
    }

    public int man(int man, int minute, int what) {
        if (!man(man) || !by(minute) || !to(what, 1)) {
            return NONE;
        }
        Row row = state.rows.get(minute);
        return what == 0 ? row.room[man] : row.rank[man];
    }

    public int mirror(int mirror, int minute, int what) {
        if (!mirror(mirror) || !by(minute) || !to(what, 6)) {
            return NONE;
        }
        Row row = state.rows.get(minute);
        return new int[] {row.hang[mirror], row.late[mirror], row.wall[mirror] ? 1 : 0,
            state.broken(mirror, minute) ? 1 : 0, state.shows(mirror, minute), state.roomShown(mirror, minute),
            bits(state.menShown(mirror, minute))}[what];
    }

    private void done() {
        past.add(new State(state));
        if (past.size() > 20) {
            past.remove(0);
        }
    }

    public int minutes(int n) {
        if (!to(n, 299) || now() + n > 299) {
            return NONE;
        }
        if (n > 0) {
            done();
        }
        state = state.goneTo(now() + n);
        return now();
    }

    public boolean go(int man, int door) {
        if (!man(man)) {
            return false;
        }
        List<Integer> ways = told.ways(state.now().room[man]);
        if (door < 1 || door > ways.size()) {
            return false;
        }
        done();
        state.now().room[man] = ways.get(door - 1);
        state.reckonLates();
        return true;
    }

    public boolean raise(int man, int rank) {
        if (!man(man) || !to(rank, 20) || state.now().rank[man] == rank) {
            return false;
        }
        done();
        state.now().rank[man] = rank;
        state.reckonLates();
        return true;
    }

    public boolean carry(int mirror, int room) {
        if (!mirror(mirror) || !room(room) || state.now().hang[mirror] == room) {
            return false;
        }
        done();
        state.now().hang[mirror] = room;
        state.reckonLates();
        return true;
    }

    public boolean turn(int mirror, boolean wall) {
        if (!mirror(mirror) || state.now().wall[mirror] == wall) {
            return false;
        }
        done();
        state.now().wall[mirror] = wall;
        return true;
    }

    public boolean smash(int mirror) {
        if (!mirror(mirror) || state.brokenAt[mirror] != null) {
            return false;
        }
        done();
        state.breakNow(mirror);
        return true;
    }

    public boolean undo() {
        if (past.isEmpty()) {
            return false;
        }
        state = past.remove(past.size() - 1);
        return true;
    }

    /** The minutes that a chain of mirrors shows, each seen in the one ahead, as far as something is shown. */
    private List<Integer> chain(List<Integer> mirrors) {
        List<Integer> minutes = new ArrayList<>();
        int t = now();
        for (int i = 0; i < mirrors.size(); i++) {
            int mirror = mirrors.get(i);
            if (i > 0) {
                int outer = mirrors.get(i - 1);
                Row row = state.rows.get(t);
                if (outer == mirror || row.hang[outer] != row.hang[mirror]) {
                    break;
                }
            }
            t = state.shows(mirror, t);
            if (t == NOTHING) {
                break;
            }
            minutes.add(t);
        }
        return minutes;
    }

    public int look(int one, int other, int third, int what) {
        if (!mirror(one) || !mirror(other) || third != NONE && !mirror(third) || !to(what, 2)) {
            return NONE;
        }
        List<Integer> mirrors = third == NONE ? List.of(one, other) : List.of(one, other, third);
        List<Integer> minutes = chain(mirrors);
        if (minutes.size() < mirrors.size()) {
            return NOTHING;
        }
        int minute = minutes.get(minutes.size() - 1);
        int room = state.rows.get(minute).hang[mirrors.get(mirrors.size() - 1)];
        return what == 0 ? minute : what == 1 ? room : bits(state.menIn(room, minute));
    }

    public int last(int man, int room) {
        if (!man(man) || !room(room)) {
            return NONE;
        }
        return lastOf(t -> state.rows.get(t).room[man] == room);
    }

    private int lastOf(IntPredicate holds) {
        int found = NOTHING;
        for (int t = 0; t <= now(); t++) {
            found = holds.test(t) ? t : found;
        }
        return found;
    }

    private int times(IntPredicate holds) {
        int found = 0;
        for (int t = 0; t <= now(); t++) {
            found += holds.test(t) ? 1 : 0;
        }
        return found;
    }

    public int visits(int man, int room) {
        if (!man(man) || room != NONE && !room(room)) {
            return NONE;
        }
        if (room == NONE) {
            return times(t -> t > 0 && state.rows.get(t).room[man] != state.rows.get(t - 1).room[man]);
        }
        return times(t -> state.rows.get(t).room[man] == room);
    }

    private boolean single(int man, int t) {
        return state.menIn(state.rows.get(t).room[man], t).size() == 1;
    }

    public int alone(int man, boolean row) {
        if (!man(man)) {
            return NONE;
        }
        if (!row) {
            return times(t -> single(man, t));
        }
        int longest = 0;
        for (int from = 0; from <= now(); from++) {
            int end = from;
            while (end <= now() && single(man, end)) {
                end++;
            }
            longest = Math.max(longest, end - from);
        }
        return longest;
    }

    public int lonely() {
        int found = NOTHING;
        for (int man = told.men.size() - 1; man >= 0; man--) {
            if (found == NOTHING || alone(man, false) >= alone(found, false)) {
                found = man;
            }
        }
        return found;
    }

    public int together(int man, int other, int what) {
        if (!man(man) || !man(other) || man == other || !to(what, 1)) {
            return NONE;
        }
        IntPredicate holds = t -> state.rows.get(t).room[man] == state.rows.get(t).room[other];
        return what == 0 ? times(holds) : lastOf(holds);
    }

    public int facing(int one, int other, int i) {
        if (!mirror(one) || !mirror(other) || one == other) {
            return NONE;
        }
        List<Integer> mirrors = new ArrayList<>();
        for (int n = 0; n < 20; n++) {
            mirrors.add(n % 2 == 0 ? one : other);
        }
        List<Integer> minutes = chain(mirrors);
        return i == NONE ? minutes.size() : to(i, minutes.size() - 1) ? minutes.get(i) : NONE;
    }

    public int glimpses(int man, int other, int what) {
        if (!man(man) || !man(other) || man == other || !to(what, 1)) {
            return NONE;
        }
        IntPredicate holds = t -> state.menShownIn(state.rows.get(t).room[man], t).contains(other);
        if (what == 0) {
            return times(holds);
        }
        for (int t = 0; t <= now(); t++) {
            if (holds.test(t)) {
                return t;
            }
        }
        return NOTHING;
    }

    public int ghosts(int room) {
        if (!room(room)) {
            return NONE;
        }
        Set<Integer> found = new TreeSet<>();
        for (int m = 0; m < told.mirrors.size(); m++) {
            if (state.now().hang[m] == room) {
                for (int man : state.menShown(m, now())) {
                    if (state.now().room[man] != state.roomShown(m, now())) {
                        found.add(man);
                    }
                }
            }
        }
        return bits(found);
    }

    public int oldest(int what) {
        if (!to(what, 1)) {
            return NONE;
        }
        int best = NOTHING;
        for (int m = 0; m < told.mirrors.size(); m++) {
            int minute = state.shows(m, now());
            if (minute != NOTHING && (best == NOTHING || minute < state.shows(best, now()))) {
                best = m;
            }
        }
        return what == 0 || best == NOTHING ? best : state.shows(best, now());
    }

    public int shown(int mirror, boolean skipped) {
        if (!mirror(mirror)) {
            return NONE;
        }
        List<Integer> all = new ArrayList<>();
        for (int t = 0; t <= now(); t++) {
            if (state.shows(mirror, t) != NOTHING) {
                all.add(state.shows(mirror, t));
            }
        }
        TreeSet<Integer> once = new TreeSet<>(all);
        if (!skipped) {
            return (int) once.stream().filter(s -> all.indexOf(s) != all.lastIndexOf(s)).count();
        }
        int found = 0;
        for (int s = 0; s < 300; s++) {
            if (!once.isEmpty() && s > once.first() && s < once.last() && !once.contains(s)) {
                found++;
            }
        }
        return found;
    }

    public int deepest(int mirror, int what) {
        if (!mirror(mirror) || !to(what, 1)) {
            return NONE;
        }
        if (state.shows(mirror, now()) == NOTHING) {
            return NOTHING;
        }
        int least = 1000;
        int fewest = 0;
        int n = told.mirrors.size();
        for (int b = 0; b < n; b++) {
            for (int c = 0; c < n; c++) {
                for (int d = 0; d < n; d++) {
                    List<Integer> minutes = chain(List.of(mirror, b, c, d));
                    for (int i = 0; i < minutes.size(); i++) {
                        int minute = minutes.get(i);
                        if (minute < least || minute == least && i + 1 < fewest) {
                            least = minute;
                            fewest = i + 1;
                        }
                    }
                }
            }
        }
        return what == 0 ? least : fewest;
    }

    public int crowd(int minute, int what) {
        if (!by(minute) || !to(what, 1)) {
            return NONE;
        }
        int best = NOTHING;
        for (int room = 0; room < told.rooms; room++) {
            if (best == NOTHING || state.menIn(room, minute).size() > state.menIn(best, minute).size()) {
                best = room;
            }
        }
        return what == 0 || best == NOTHING ? best : state.menIn(best, minute).size();
    }

    public int rankFor(int mirror, int minute) {
        if (!mirror(mirror) || !by(minute)) {
            return NONE;
        }
        if (state.brokenAt[mirror] != null) {
            return NOTHING;
        }
        for (int rank = 0; rank <= 20; rank++) {
            State with = new State(state);
            with.now().rank[told.mirrors.get(mirror)[1]] = rank;
            with.reckonLates();
            if (with.shows(mirror, now()) == minute) {
                return rank;
            }
        }
        return NOTHING;
    }

    private int steps(int from, int to, Set<Integer> through) {
        if (!through.contains(from) || !through.contains(to)) {
            return 1000;
        }
        Set<Integer> reached = new HashSet<>(Set.of(from));
        for (int n = 0; n < 10; n++) {
            if (reached.contains(to)) {
                return n;
            }
            for (int room : List.copyOf(reached)) {
                told.ways(room).stream().filter(through::contains).forEach(reached::add);
            }
        }
        return 1000;
    }

    private Set<Integer> allRooms() {
        Set<Integer> rooms = new TreeSet<>();
        for (int room = 0; room < told.rooms; room++) {
            rooms.add(room);
        }
        return rooms;
    }

    public int view(int man, int room, int minute, int what) {
        if (!man(man) || !room(room) || !by(minute) || !to(what, 1)) {
            return NONE;
        }
        State end = state.goneTo(299);
        for (int t = now(); t <= 299; t++) {
            for (int m = 0; m < told.mirrors.size(); m++) {
                int way = steps(state.now().room[man], state.now().hang[m], allRooms());
                if (end.shows(m, t) == minute && end.roomShown(m, t) == room && now() + way <= t) {
                    return what == 0 ? t : m;
                }
            }
        }
        return NOTHING;
    }

    public int willBe(int man, int n) {
        return man(man) && to(n, 299) ? state.goneTo(now() + n).now().room[man] : NONE;
    }

    public int rests(int man, int other, int i) {
        if (!man(man) || !man(other) || man == other) {
            return NONE;
        }
        List<Integer> found = new ArrayList<>();
        for (int one = 0; one < told.rooms; one++) {
            for (int two = 0; two < told.rooms; two++) {
                boolean holds = true;
                for (int else1 = 0; else1 < told.rooms; else1++) {
                    holds &= gain(man, other, else1, two) <= gain(man, other, one, two);
                    holds &= gain(man, other, else1, one) <= gain(man, other, two, one);
                }
                if (holds) {
                    found.add(10 * one + two);
                }
            }
        }
        return i == NONE ? found.size() : to(i, found.size() - 1) ? found.get(i) : NONE;
    }

    private int gain(int man, int other, int mine, int his) {
        Set<Integer> seen = new TreeSet<>(state.menShownIn(mine, now()));
        seen.remove(man);
        seen.remove(other);
        return seen.size() - (mine == his ? 2 : 0);
    }

    public int still(int room, int minute) {
        if (!room(room) || !by(minute)) {
            return NONE;
        }
        State end = state.goneTo(299);
        Set<Integer> found = new TreeSet<>();
        for (int m = 0; m < told.mirrors.size(); m++) {
            for (int t = now(); t <= 299; t++) {
                if (end.shows(m, t) == minute && end.roomShown(m, t) == room) {
                    found.add(m);
                }
            }
        }
        return bits(found);
    }

    public int soonest(int room, int minute, int what) {
        if (!room(room) || !by(minute) || !to(what, 1)) {
            return NONE;
        }
        State end = state.goneTo(299);
        for (int t = now(); t <= 299; t++) {
            for (int m = 0; m < told.mirrors.size(); m++) {
                if (end.shows(m, t) == minute && end.roomShown(m, t) == room) {
                    return what == 0 ? t : m;
                }
            }
        }
        return NOTHING;
    }

    public int seen(int man, int n) {
        if (!man(man) || !to(n, 299)) {
            return NONE;
        }
        State end = state.goneTo(now() + n);
        int found = 0;
        for (int m = 0; m < told.mirrors.size(); m++) {
            for (int t = now(); t <= end.minute(); t++) {
                found += end.menShown(m, t).contains(man) ? 1 : 0;
            }
        }
        return found;
    }

    public int jolt(int man, int rank, int what) {
        if (!man(man) || !to(rank, 20) || !to(what, 2)) {
            return -1000;
        }
        List<Integer> all = new ArrayList<>();
        for (int m = 0; m < told.mirrors.size(); m++) {
            if (told.mirrors.get(m)[1] == man && state.brokenAt[m] == null) {
                all.add(state.lateWith(m, rank) - state.lateWith(m, state.now().rank[man]));
            }
        }
        if (all.isEmpty()) {
            return 0;
        }
        return switch (what) {
            case 0 -> java.util.Collections.max(all);
            case 1 -> all.stream().filter(x -> x > 0).mapToInt(x -> x).sum();
            default -> -all.stream().filter(x -> x < 0).mapToInt(x -> x).sum();
        };
    }

    public int hidden(int room, int other, int what) {
        if (!room(room) || !room(other) || !to(what, 1)) {
            return NONE;
        }
        Set<Integer> dark = allRooms();
        for (int m = 0; m < told.mirrors.size(); m++) {
            if (!state.now().wall[m] && state.brokenAt[m] == null) {
                dark.remove(state.now().hang[m]);
            }
        }
        int way = steps(room, other, dark);
        if (way == 1000) {
            return NOTHING;
        }
        if (what == 0 || way == 0) {
            return what == 0 ? way : room;
        }
        for (int next : told.ways(room)) {
            if (steps(next, other, dark) == way - 1) {
                return next;
            }
        }
        throw new IllegalStateException("a way without a first room");
    }

    public int stand(int what) {
        if (!to(what, 1)) {
            return NONE;
        }
        int best = NOTHING;
        for (int room = told.rooms - 1; room >= 0; room--) {
            if (best == NOTHING || state.menShownIn(room, now()).size() >= state.menShownIn(best, now()).size()) {
                best = room;
            }
        }
        return what == 0 || best == NOTHING ? best : state.menShownIn(best, now()).size();
    }

    public int turned(int man, int what) {
        if (!man(man) || !to(what, 1)) {
            return NONE;
        }
        State end = state.goneTo(299);
        Set<Integer> found = new TreeSet<>();
        for (int m = 0; m < told.mirrors.size(); m++) {
            for (int t = now(); t <= 299; t++) {
                if (end.menShown(m, t).contains(man)) {
                    found.add(m);
                }
            }
        }
        return what == 0 ? found.size() : bits(found);
    }

    public int odds(int mirror, int n, int s) {
        if (!mirror(mirror) || !to(n, 299) || s < 1 || s > 10) {
            return NONE;
        }
        int found = 0;
        int first = told.seed;
        for (int i = 0; i < s; i++) {
            told.seed = first + i;
            if (state.goneTo(now() + n).brokenAt[mirror] != null) {
                found++;
            }
        }
        told.seed = first;
        return found;
    }

    public int tell(int mirror, int minute, int man, boolean there) {
        if (!mirror(mirror) || !to(minute, 99) || !man(man) || glances.size() == 20) {
            return NONE;
        }
        glances.add(new Glance(mirror, minute, man, there));
        return glances.size() - 1;
    }

    public int forget() {
        int size = glances.size();
        glances.clear();
        return size;
    }

    public int began(int man, int k, int i) {
        if (!man(man) || !to(k, glances.size())) {
            return NONE;
        }
        List<Integer> found = new ArrayList<>();
        int as = told.men.get(man).room;
        for (int room = 0; room < told.rooms; room++) {
            told.men.get(man).room = room;
            State run = new State(told).goneTo(99);
            boolean holds = true;
            for (Glance glance : glances.subList(0, k)) {
                holds &= run.menShown(glance.mirror, glance.minute).contains(glance.man) == glance.there;
            }
            if (holds) {
                found.add(room);
            }
        }
        told.men.get(man).room = as;
        return i == NONE ? found.size() : to(i, found.size() - 1) ? found.get(i) : NONE;
    }

    public boolean hold(int slot) {
        if (!to(slot, 2)) {
            return false;
        }
        slots[slot] = new State(state);
        return true;
    }

    public boolean restore(int slot) {
        if (!to(slot, 2) || slots[slot] == null) {
            return false;
        }
        state = new State(slots[slot]);
        past.clear();
        return true;
    }

    public int count(int what) {
        Set<Integer> broken = new TreeSet<>();
        Set<Integer> walls = new TreeSet<>();
        for (int m = 0; m < told.mirrors.size(); m++) {
            if (state.brokenAt[m] != null) {
                broken.add(m);
            }
            if (state.now().wall[m]) {
                walls.add(m);
            }
        }
        int held = 0;
        for (State slot : slots) {
            held += slot == null ? 0 : 1;
        }
        int[] all = {told.rooms, told.doors.size(), told.men.size(), told.mirrors.size(), now(), bits(broken),
            bits(walls), tape.length(), past.size(), glances.size(), held};
        return to(what, 10) ? all[what] : NONE;
    }
}
