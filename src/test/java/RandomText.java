import java.util.ArrayList;
import java.util.List;
import java.util.Random;

/** Texts by seeds. */
final class RandomText {
    private static final String[] BITS = {"room", "door", "man", "goes", "mirror", "late", "breaks", "seed", "if",
        "then", "else", "minute", "here", "rank", "number", "ways", "with", ";", "=", "+", "-", "*", "/", "<", "(",
        ")", "a", "ra", "ma", "12345678", "abcdefgh", "abcdefghi", "0", "7", "20", "21", "100", "101", "9999", "12345",
        "!", "A", "\u0000", "\u00e9", " ", "\t", "\n", "\r", "\u000b"};

    private static final String[] TAME = {"rank / 4", "( rank + number ) / 5", "with", "1 + rank / 8 + with",
        "rank - minute", "if minute < 9 then 0 else 3 + number / 2", "number", "ways * 2 + here"};

    private final Random random;
    private final List<String> tokens = new ArrayList<>();

    RandomText(Random random) {
        this.random = random;
    }

    private void add(String line) {
        tokens.addAll(List.of(line.split(" ")));
    }

    private int upTo(int most) {
        return random.nextInt(most + 1);
    }

    String whole() {
        tokens.clear();
        int rooms = 1 + upTo(random.nextInt(3) > 0 ? 3 : 7);
        int doors = upTo(12);
        int men = random.nextInt(3) > 0 ? 2 + upTo(4) : upTo(6);
        int mirrors = men == 0 ? 0 : random.nextInt(3) > 0 ? 3 + upTo(5) : upTo(8);
        for (int i = 0; i < rooms; i++) {
            add("room r" + letter(i) + " ;");
        }
        for (int i = 0; i < doors && rooms > 1; i++) {
            int one = random.nextInt(rooms);
            int two = (one + 1 + random.nextInt(rooms - 1)) % rooms;
            add("door r" + letter(one) + " r" + letter(two) + " ;");
        }
        for (int i = 0; i < men; i++) {
            add("man m" + letter(i) + " " + upTo(random.nextBoolean() ? 20 : 5) + " r" + letter(upTo(rooms - 1)) + " ;");
        }
        for (int i = 0; i < mirrors; i++) {
            add("mirror g" + letter(i) + " r" + letter(upTo(rooms - 1)) + " m" + letter(upTo(men - 1)) + " ;");
        }
        for (int i = 0; i < men; i++) {
            if (random.nextInt(5) > 0) {
                add("goes m" + letter(upTo(men - 1)));
                law();
            }
        }
        int late = random.nextInt(TAME.length + 4);
        if (late < TAME.length) {
            add("late = " + TAME[late] + " ;");
        } else if (late > TAME.length) {
            add("late");
            law();
        }
        if (random.nextInt(3) == 0) {
            add("breaks " + upTo(random.nextBoolean() ? 100 : 6) + " ;");
        }
        if (random.nextInt(2) == 0) {
            add("seed " + upTo(9999) + " ;");
        }
        return joined();
    }

    private static char letter(int i) {
        return (char) ('a' + i);
    }

    private void law() {
        add("=");
        int ifs = random.nextInt(3) == 0 ? 1 + upTo(2) : 0;
        for (int i = 0; i < ifs; i++) {
            add("if");
            sum(1);
            add("<");
            sum(1);
            add("then");
            sum(1);
            add("else");
        }
        sum(2);
        add(";");
    }

    private void sum(int depth) {
        unit(depth);
        for (int n = upTo(depth); n > 0; n--) {
            add(List.of("+", "-", "*", "/").get(upTo(3)));
            unit(depth);
        }
    }

    private void unit(int depth) {
        int kind = upTo(depth > 0 ? 5 : 4);
        if (kind == 5) {
            add("(");
            sum(depth - 1);
            add(")");
        } else if (kind >= 2) {
            add(List.of("minute", "here", "rank", "number", "ways", "with").get(upTo(5)));
        } else {
            add("" + upTo(random.nextInt(10) == 0 ? 9999 : 7));
        }
    }

    /** A whole one with a few of its tokens gone, doubled, changed. */
    String spoilt() {
        whole();
        for (int n = 1 + upTo(2); n > 0 && !tokens.isEmpty(); n--) {
            int i = random.nextInt(tokens.size());
            String bit = BITS[random.nextInt(BITS.length)];
            switch (upTo(8)) {
                case 0 -> tokens.remove(i);
                case 1 -> tokens.add(i, bit);
                case 2 -> tokens.set(i, bit);
                case 3 -> tokens.set(i, tokens.get(random.nextInt(tokens.size())));
                case 4 -> tokens.subList(i, tokens.size()).clear();
                case 5 -> pileUp(i);
                case 6 -> number();
                case 7 -> name();
                default -> moveTell();
            }
        }
        return joined();
    }

    /** One token, or what goes with it, so often that it may be too often. */
    private void pileUp(int i) {
        String[][] piles = {{"("}, {"if", "1", "<", "2", "then", "3", "else"}, {"1", "+"}, {"door", "ra", "rb", ";"},
            {"room", "z", ";"}, {"man", "z", "1", "ra", ";"}, {"mirror", "z", "ra", "ma", ";"}, {"late", "=", "1", ";"}};
        int which = random.nextInt(piles.length);
        int times = random.nextInt(4) == 0 ? 120 : 1 + upTo(8);
        int from = random.nextInt(4) == 0 ? i : behind(which < 3 ? "=" : ";", i);
        for (int n = 0; n < times; n++) {
            tokens.addAll(from, List.of(piles[which]));
        }
    }

    private int behind(String token, int i) {
        int found = tokens.subList(i, tokens.size()).indexOf(token);
        return found < 0 ? i : i + found + 1;
    }

    /** Some number, of those that are looked at, is another one. */
    private void number() {
        for (int i = random.nextInt(tokens.size()); i < tokens.size(); i++) {
            if (Character.isDigit(tokens.get(i).charAt(0))) {
                tokens.set(i, List.of("20", "21", "100", "101", "9999", "0021", "10000").get(upTo(6)));
                return;
            }
        }
    }

    /** Some name is another one's. */
    private void name() {
        for (int i = random.nextInt(tokens.size()); i < tokens.size(); i++) {
            if (tokens.get(i).matches("[rmg][a-h]")) {
                tokens.set(i, "" + "rmg".charAt(upTo(2)) + letter(upTo(7)));
                return;
            }
        }
    }

    /** The first tell goes to the end. */
    private void moveTell() {
        int end = tokens.indexOf(";") + 1;
        List<String> first = List.copyOf(tokens.subList(0, end));
        tokens.subList(0, end).clear();
        tokens.addAll(first);
    }

    private String joined() {
        StringBuilder text = new StringBuilder();
        String ahead = ";";
        for (String token : tokens) {
            boolean apart = wordLike(ahead) && wordLike(token);
            text.append(apart || random.nextInt(8) == 0 ? List.of(" ", "\n", "\t", "\r ").get(upTo(3)) : "");
            text.append(token);
            ahead = token;
        }
        return text.length() > 2000 ? text.substring(0, 2000) : text.toString();
    }

    private static boolean wordLike(String token) {
        return !token.isEmpty() && Character.isLetterOrDigit(token.charAt(token.length() - 1));
    }
}
