import java.util.List;

/** The edges that the document names for the tape, the tokens and the faults: part I and promises 1 to 5. */
public final class TextBoundaryTest {
    private static final int NONE = LateMirrors.NONE;
    private static final int NOTHING = -2;
    private static final int SYNTAX = 1;
    private static final int ROOM = 2;
    private static final int TWICE = 3;
    private static final int NAME = 4;
    private static final int WRONG = 5;

    private static final List<String> WORDS = List.of("room", "door", "man", "goes", "mirror", "late", "breaks",
            "seed", "if", "then", "else", "minute", "here", "rank", "number", "ways", "with");
    private static final String SIGNS = ";=+-*/<()";

    /** Eight rooms, twelve doors, six men, eight mirrors: as many of each sort as can be. */
    private static final String FULL = "room ra;room rb;room rc;room rd;room re;room rf;room rg;room rh;"
            + "door ra rb;".repeat(6) + "door rc rd;".repeat(4) + "door re rf;" + "door rg rh;man ma 1 ra;"
            + "man mb 2 rb;man mc 3 rc;man md 4 rd;man me 5 re;man mf 6 rh;mirror ga ra ma;mirror gb rb mb;"
            + "mirror gc rc mc;mirror gd rd md;mirror ge re me;mirror gf rf mf;mirror gg rg ma;mirror gh rh mf;";

    private TextBoundaryTest() {
    }

    private static void due(String what, long want, long got) {
        Checks.due(what, want, got);
    }

    private static void due(String what, boolean want, boolean got) {
        Checks.due(what, want, got);
    }

    // ---- promises 1 to 5

    /** Nothing is told: no rooms, no men, no mirrors. */
    private static void newObject() {
        LateMirrors x = new LateMirrors();
        for (int what = 0; what <= 10; what++) {
            due("P1 nothing is told, count " + what, 0, x.count(what));
        }
        due("P5 no read() yet", NONE, x.place());
        due("P2 the first twenty", 20, x.feed(0, 0, 0, 0, 0));
        due("P3 all of them", 0, x.back(20));
        int[] none = {x.man(0, 0, 0), x.mirror(0, 0, 0), x.look(0, 0, NONE, 0), x.last(0, 0), x.visits(0, NONE),
            x.alone(0, false), x.together(0, 0, 0), x.facing(0, 0, NONE), x.glimpses(0, 0, 0), x.ghosts(0),
            x.shown(0, false), x.deepest(0, 0), x.rankFor(0, 0), x.view(0, 0, 0, 0), x.willBe(0, 0),
            x.rests(0, 0, NONE), x.still(0, 0), x.soonest(0, 0, 0), x.seen(0, 0), x.hidden(0, 0, 0), x.turned(0, 0),
            x.odds(0, 0, 1), x.tell(0, 0, 0, true), x.began(0, 0, NONE), x.oldest(2), x.stand(2), x.crowd(0, 2)};
        for (int i = 0; i < none.length; i++) {
            due("P1 no such ones in a new object, " + i, NONE, none[i]);
        }
        due("P35 no such ones in a new object", -1000, x.jolt(0, 0, 0));
        int[] nothing = {x.lonely(), x.oldest(0), x.oldest(1), x.crowd(0, 0), x.crowd(0, 1), x.stand(0), x.stand(1)};
        for (int i = 0; i < nothing.length; i++) {
            due("P1 none in a new object, " + i, NOTHING, nothing[i]);
        }
        boolean[] refused = {x.go(0, 1), x.raise(0, 1), x.carry(0, 0), x.turn(0, true), x.smash(0), x.undo(),
            x.restore(0)};
        for (int i = 0; i < refused.length; i++) {
            due("P1 nothing can be done in a new object, " + i, false, refused[i]);
        }
        due("P8 but minutes go by", 299, x.minutes(299));
        due("P14 and are undone", true, x.undo());
        due("P43 and what is is held", true, x.hold(0));
        due("P44 and gone on from", true, x.restore(0));
    }

    private static void feed() {
        LateMirrors x = new LateMirrors();
        // room a;man m 12 a; and two blanks: each byte in its place
        due("P2 the highest of a first", 20, x.feed(0x726f6f6d, 0x20613b6d, 0x616e206d, 0x20313220, 0x613b2020));
        due("P2 such a text", 0, x.read());
        due("P2 his rank", 12, x.man(0, 0, 1));
        x.feed(0x726f6f6d, 0x20616263, 0x64656667, 0x683b726f, 0x6f6d2020);
        due("P3 less one byte", 19, x.back(1));
        due("P2 behind the tape", 39, x.feed(0x623b6d61, 0x6e206d20, 0x3320623b, 0x20202020, 0x20202020));
        due("P2 both together", 0, x.read());
        due("P2 two rooms", 2, x.count(0));
        due("P2 he is in the second", 1, x.man(0, 0, 0));
        x.feed(0x726f6f6d, 0x80000000, 0, 0, 0);
        due("P2 a byte above 127", SYNTAX, x.read());
        due("P5 where it stands", 4, x.place());
        x.feed(-1, 0, 0, 0, 0);
        due("P2 a first byte of 255", SYNTAX, x.read());
        due("P5 where it stands", 0, x.place());
    }

    /** NONE, and nothing comes, if it would have more than 2,000. */
    private static void fullTape() {
        for (int left = 0; left <= 21; left++) {
            LateMirrors x = new LateMirrors();
            String text = FULL + " ".repeat(2000 - left - FULL.length());
            Checks.feed(x, text);
            boolean fits = left >= 20;
            due("P2 the tape", 2000 - left, x.count(7));
            due("P2 twenty more with " + left + " left", fits ? 2020 - left : NONE, x.feed(-1, -1, -1, -1, -1));
            due("P2 nothing comes with " + left + " left", fits ? 2020 - left : 2000 - left, x.count(7));
            due("P4 what stands with " + left + " left", fits ? SYNTAX : 0, x.read());
            due("P5 where with " + left + " left", fits ? 2000 - left : NONE, x.place());
        }
        String filled = "room a;" + " ".repeat(1986) + "room b;";
        due("I a text of 2,000 bytes", 2, Checks.court(filled).count(0));
        Checks.fault("room a;" + " ".repeat(1987) + "room b", SYNTAX, 2000);
        Checks.fault("room a;" + " ".repeat(1992) + "!", SYNTAX, 1999);
    }

    /** NONE, and nothing goes, if it has not so many, or n is below 0. */
    private static void back() {
        for (int n : new int[] {-1, 8, 9, 2000, Integer.MAX_VALUE, Integer.MIN_VALUE}) {
            LateMirrors x = new LateMirrors();
            Checks.feed(x, "room a;");
            due("P3 back " + n, NONE, x.back(n));
            due("P3 nothing goes by " + n, 7, x.count(7));
            due("P3 what stands behind " + n, 0, x.read());
            due("P3 the room behind " + n, 1, x.count(0));
            due("P3 back of an empty tape " + n, NONE, x.back(n));
        }
        for (int n = 0; n <= 7; n++) {
            LateMirrors x = new LateMirrors();
            Checks.feed(x, "room a;");
            due("P3 so many go: " + n, 7 - n, x.back(n));
            due("P3 so many stay: " + n, 7 - n, x.count(7));
            due("P3 the first stay: " + n, n == 0 || n == 7 ? 0 : SYNTAX, x.read());
            due("P3 to its end: " + n, n == 0 || n == 7 ? NONE : n <= 3 ? 7 - n : 0, x.place());
        }
    }

    private static void readAndPlace() {
        LateMirrors x = new LateMirrors();
        due("P4 an empty tape", 0, x.read());
        due("P5 no FAULT", NONE, x.place());
        Object[][] all = {{"room a; room a;", TWICE, 13}, {"room", SYNTAX, 4}, {"seed 5; door a b;", NAME, 13},
            {"room a;", 0, NONE}, {"breaks 101;", WRONG, 7}, {"breaks 100;", 0, NONE}, {"!", SYNTAX, 0}, {"", 0, NONE},
            {"late=(((((((", ROOM, 11}, {" ", 0, NONE}, {"man m 0 a;", NAME, 8}, {"room a;man m 0 a;", 0, NONE}};
        for (Object[] one : all) {
            Checks.feed(x, (String) one[0]);
            due("P4 read of " + one[0], (int) one[1], x.read());
            due("P5 place in " + one[0], (int) one[2], x.place());
            due("P4 the tape is empty behind " + one[0], 0, x.count(7));
            due("P5 it stays the latest", (int) one[2], x.place());
        }
        due("P4 the last good one stands", 1, x.count(2));
        Checks.feed(x, "room");
        due("P5 feeding changes no place", NONE, x.place());
        x.back(4);
        x.minutes(1);
        due("P5 minutes neither", NONE, x.place());
    }

    // ---- tokens

    private static boolean isBlank(int c) {
        return c == 9 || c == 10 || c == 13 || c == 32;
    }

    private static boolean isLetter(int c) {
        return c >= 97 && c <= 122;
    }

    private static boolean isDigit(int c) {
        return c >= 48 && c <= 57;
    }

    /** Each byte by itself: where a blank, a name, a number, a tell is due. */
    private static void everyByte() {
        for (int c = 0; c < 256; c++) {
            char byteC = (char) c;
            if (isBlank(c)) {
                due("I a blank " + c, 1, Checks.court("room" + byteC + "a;").count(0));
                due("I blanks alone " + c, 0, Checks.court("" + byteC + byteC).count(0));
            } else {
                Checks.fault("room" + byteC + "a;", SYNTAX, isLetter(c) ? 0 : 4);
                Checks.fault("" + byteC, SYNTAX, 0);
            }
            if (isLetter(c)) {
                due("I a NAME " + c, 1, Checks.court("room " + byteC + ";").count(0));
            } else {
                Checks.fault("room " + byteC + ";", SYNTAX, isBlank(c) ? 6 : 5);
            }
            if (isDigit(c)) {
                Checks.court("seed " + byteC + ";");
            } else {
                Checks.fault("seed " + byteC + ";", SYNTAX, isBlank(c) ? 6 : 5);
            }
            if ("+-*/".indexOf(byteC) >= 0) {
                Checks.court("late=1" + byteC + "1;");
            } else {
                Checks.fault("late=1" + byteC + "x;", SYNTAX, c == ';' || isBlank(c) || isDigit(c) ? 7 : 6);
            }
        }
    }

    private static void longestTokens() {
        due("I a NAME of 8", 1, Checks.court("room abcdefgh;").count(0));
        Checks.fault("room abcdefghi;", SYNTAX, 5);
        Checks.fault("room " + "a".repeat(1000) + ";", SYNTAX, 5);
        Checks.fault("abcdefghi", SYNTAX, 0);
        Checks.fault("minuteminute;", SYNTAX, 0);
        due("I all 8 tell NAMES apart", 3, Checks.court("room abcdefgh;room abcdefgi;room bbcdefgh;").count(0));
        due("I NAMES of other lengths", 4, Checks.court("room a;room aa;room aaaaaaa;room aaaaaaaa;").count(0));
        Checks.fault("room zzzzzzzz;room zzzzzzzy;room zzzzzzzz;", TWICE, 33);
        Checks.court("seed 9999;");
        Checks.fault("seed 10000;", SYNTAX, 5);
        Checks.fault("seed 00000;", SYNTAX, 5);
        Checks.court("seed 0000; breaks 000;");
        due("I an INT with 0 ahead", 7, Checks.court("room a;man m 0007 a;").man(0, 0, 1));
        due("I no blanks where TOKENS end", 12, Checks.court("room a;man m12a;").man(0, 0, 1));
        Checks.fault("man m 12345a;", SYNTAX, 6);
        Checks.fault("roomroom;", SYNTAX, 0);
        Checks.fault("room7;", SYNTAX, 4);
        Checks.fault("room a7;", SYNTAX, 6);
        Checks.fault("room 7a;", SYNTAX, 5);
        Checks.fault("seed 7 7;", SYNTAX, 7);
        Checks.fault("room a a;", SYNTAX, 7);
        for (String word : WORDS) {
            Checks.fault("room " + word + ";", SYNTAX, 5);
            Checks.fault("room a; man " + word + " 0 a;", SYNTAX, 12);
            Checks.fault("late = if 1 < 2 then " + word + word + " else 3;", SYNTAX, 21);
            String longer = (word + "zzzz").substring(0, Math.min(8, word.length() + 4));
            due("I a NAME that begins with a word", 1, Checks.court("room " + longer + ";").count(0));
            due("I a NAME that is a word less its end", 1,
                    Checks.court("room " + word.substring(0, word.length() - 1) + ";").count(0));
        }
    }

    // ---- SYNTAX: with which tokens a text goes on

    /**
     * What may stand at each token of a tell: W the word of a tell, N a NAME, I an INT, V a VAR, F if, T then, E else,
     * a sign itself.
     */
    private static final String[][] TELLS = {
        {"room c ;", "W", "N", ";"},
        {"door a b ;", "W", "N", "N", ";"},
        {"man n 4 a ;", "W", "N", "I", "N", ";"},
        {"goes m = 1 ;", "W", "N", "=", "IV(F", "+-*/;"},
        {"mirror h a m ;", "W", "N", "N", "N", ";"},
        {"late = minute ;", "W", "=", "IV(F", "+-*/;"},
        {"breaks 7 ;", "W", "I", ";"},
        {"seed 8 ;", "W", "I", ";"},
        {"late = if 1 < 2 then 3 else 4 ;", "W", "=", "IV(F", "IV(", "+-*/<", "IV(", "+-*/T", "IV(", "+-*/E", "IV(F",
            "+-*/;"},
        {"goes m = if ( 1 ) < ( 2 ) then ( 3 ) else if 1 < 2 then 3 else ( ( 4 ) ) ;", "W", "N", "=", "IV(F", "IV(",
            "IV(", "+-*/)", "+-*/<", "IV(", "IV(", "+-*/)", "+-*/T", "IV(", "IV(", "+-*/)", "+-*/E", "IV(F", "IV(",
            "+-*/<", "IV(", "+-*/T", "IV(", "+-*/E", "IV(F", "IV(", "IV(", "+-*/)", "+-*/)", "+-*/;"},
        {"late = 1 + here * ( rank - 2 / ways ) ;", "W", "=", "IV(F", "+-*/;", "IV(", "+-*/;", "IV(", "IV(", "+-*/)",
            "IV(", "+-*/)", "IV(", "+-*/)", "+-*/;"}};

    private static char kindOf(String token) {
        int word = WORDS.indexOf(token);
        if (word >= 0) {
            return "WWWWWWWWFTEVVVVVV".charAt(word);
        }
        return isLetter(token.charAt(0)) ? 'N' : isDigit(token.charAt(0)) ? 'I' : token.charAt(0);
    }

    private static void goesOn() {
        List<String> others = new java.util.ArrayList<>(WORDS);
        others.addAll(List.of("x", "5", "!", "abcdefghi", "12345"));
        for (char sign : SIGNS.toCharArray()) {
            others.add("" + sign);
        }
        for (String[] tell : TELLS) {
            String ahead = "room a; room b; man m 1 a; ";
            String[] tokens = tell[0].split(" ");
            for (int i = 0; i < tokens.length; i++) {
                if (i > 0) {
                    Checks.fault(ahead, SYNTAX, ahead.length());
                    Checks.fault(ahead.trim(), SYNTAX, ahead.length() - 1);
                }
                for (String other : others) {
                    boolean isToken = other.length() < 9 && !other.equals("12345") && !other.equals("!");
                    boolean fits = isToken && tell[i + 1].indexOf(kindOf(other)) >= 0;
                    boolean whole = fits && other.equals(";");
                    String text = ahead + other;
                    if (!whole) {
                        Checks.fault(text, SYNTAX, fits ? text.length() : ahead.length());
                    }
                }
                ahead += tokens[i] + " ";
            }
            due("I the whole of it", tell[0].startsWith("room") ? 3 : 2, Checks.court(ahead).count(0));
        }
    }

    // ---- ROOM: as many as told, and one more

    private static void oneMoreOfASort() {
        LateMirrors x = Checks.court(FULL);
        int[] all = {8, 12, 6, 8};
        for (int what = 0; what < 4; what++) {
            due("I as many as can be " + what, all[what], x.count(what));
        }
        due("I the last man's room", 7, x.man(5, 0, 0));
        due("I the last man's rank", 6, x.man(5, 0, 1));
        due("I the last mirror's room", 7, x.mirror(7, 0, 0));
        due("I the last mirror's owner", 6, x.mirror(7, 0, 1));
        due("I the last door", true, x.go(5, 1));
        due("I through the last door", 6, x.man(5, 0, 0));
        for (String more : List.of("room rx;", "door ra rb;", "man mx 0 ra;", "mirror gx ra ma;")) {
            Checks.fault(FULL + more, ROOM, FULL.length());
            Checks.fault(FULL + "  " + more, ROOM, FULL.length() + 2);
            Checks.fault(FULL + more + "!", ROOM, FULL.length());
            Checks.fault("! " + FULL + more, SYNTAX, 0);
            Checks.fault(more + FULL, ROOM, FULL.lastIndexOf(more.substring(0, 4)) + more.length());
        }
        // of the others there may be any number
        Checks.court("room a;man m 0 a;" + "breaks 1;".repeat(50) + "seed 1;".repeat(20) + "late=1;".repeat(20)
                + "goes m=1;".repeat(20));
    }

    private static void tokens401() {
        String hundred = "late=1;".repeat(100);
        Checks.court(hundred);
        Checks.court(hundred + " \n");
        Checks.fault(hundred + "  late", ROOM, 702);
        Checks.fault(hundred + "room a;", ROOM, 700);
        Checks.fault(hundred + ";", SYNTAX, 700);
        Checks.fault(hundred + "!", SYNTAX, 700);
        Checks.fault(hundred + "abcdefghi", SYNTAX, 700);
        String ahead = "late=1;".repeat(99);
        Checks.fault(ahead + "late=1", SYNTAX, 699);
        Checks.fault(ahead + "late=1+1;", ROOM, 700);
        Checks.fault(ahead + "late=1)", SYNTAX, 699);
        // 398 and 400 tokens; behind 398 the end of another tell is the 401st
        Checks.court("late=1;".repeat(98) + "late=1+1;");
        Checks.court("late=1;".repeat(98) + "late=1+1-1;");
        Checks.fault("late=1;".repeat(98) + "late=1+1;seed 7;", ROOM, 98 * 7 + 9 + 6);
        String terms = "late=1" + "+1".repeat(198) + ";";
        Checks.court(terms);
        Checks.fault("late=1" + "+1".repeat(199) + ";", ROOM, 6 + 2 * 198 + 1);
    }

    private static void ifsAndBrackets() {
        String branch = "if 1<2 then 3 else ";
        for (String tell : List.of("late=", "room a;man m 0 a;goes m=")) {
            Checks.court(tell + branch.repeat(4) + "5;");
            int fifth = tell.length() + 4 * branch.length();
            Checks.fault(tell + branch.repeat(5) + "5;", ROOM, fifth);
            Checks.fault(tell + branch.repeat(4) + "if", ROOM, fifth);
            Checks.fault(tell + branch.repeat(4) + "if !", ROOM, fifth);
            Checks.court(tell + branch.repeat(4) + "5;" + "late=" + branch.repeat(4) + "5;");
            String six = "((((((1))))))";
            Checks.court(tell + six + "*" + six + ";");
            Checks.court(tell + "if " + six + "<" + six + " then " + six + " else " + six + ";");
            Checks.fault(tell + "(((((((", ROOM, tell.length() + 6);
            Checks.fault(tell + "(((((((1)))))));", ROOM, tell.length() + 6);
            Checks.fault(tell + "(((((1+(((1))))))));", ROOM, tell.length() + 8);
            Checks.fault(tell + six + "+(((((((", ROOM, tell.length() + 20);
            Checks.fault(tell + "if 1<2 then 3 else (((((((", ROOM, tell.length() + 25);
            Checks.fault(tell + "((((((1)))))));", SYNTAX, tell.length() + 13);
        }
        Checks.fault("late=" + branch.repeat(4) + "(((((((1)))))));", ROOM, 5 + 4 * branch.length() + 6);
    }

    /** The first by its place; SYNTAX and ROOM ahead of TWICE, NAME and WRONG, wherever those stand. */
    private static void firstFault() {
        String nine = "room a;room b;room c;room d;room e;room f;room g;room h;room i;";
        Checks.fault(nine + "late=(((((((1)))))));", ROOM, 56);
        Checks.fault("late=(((((((1)))))));" + nine, ROOM, 11);
        Checks.fault("late=1 2;" + nine, SYNTAX, 7);
        Checks.fault(nine + "late=1 2;", ROOM, 56);
        Checks.fault("room a;room a;door x y;breaks 101;" + "late=(((((((1)))))));", ROOM, 45);
        Checks.fault("room a;room a;door x y;breaks 101;" + "seed", SYNTAX, 38);
        String[] parts = {"room a;room a;", "door x y;", "breaks 101;"};
        int[] faults = {TWICE, NAME, WRONG};
        int[] places = {12, 5, 7};
        for (int one = 0; one < 3; one++) {
            for (int two = 0; two < 3; two++) {
                if (one != two) {
                    Checks.fault(parts[one] + parts[two] + parts[3 - one - two], faults[one], places[one]);
                }
            }
        }
    }

    // ---- TWICE, NAME, WRONG

    private static void twice() {
        String[][] sorts = {{"room ", ";"}, {"man ", " 0 rx;"}, {"mirror ", " rx mx;"}};
        String ahead = "room rx;man mx 0 rx;mirror gx rx mx;";
        for (String[] one : sorts) {
            for (String[] two : sorts) {
                String first = ahead + one[0] + "same" + one[1];
                Checks.court(first + two[0] + "other" + two[1]);
                Checks.fault(first + two[0] + "same" + two[1], TWICE, first.length() + two[0].length());
            }
        }
        for (String name : "ra rb rc rd re rf rg rh ma mb mc md me mf ga gb gc gd ge gf gg".split(" ")) {
            String text = FULL.replace("mirror gh ", "mirror " + name + " ");
            Checks.fault(text, TWICE, FULL.indexOf("gh"));
        }
        Checks.fault("room a;door a a;", TWICE, 14);
        Checks.fault("room a;door  a\n a ;", TWICE, 16);
        Checks.fault("room a;room b;door b b;", TWICE, 21);
        Checks.fault("door a a;room a;", NAME, 5);
        Checks.fault("room a;man m 0 a;door m m;", NAME, 22);
        Checks.fault("room a;man m 0 a;door a m;", NAME, 24);
        LateMirrors x = Checks.court("room a;");
        Checks.feed(x, "room a;");
        due("I the NAMES of the text ahead are free", 0, x.read());
    }

    private static void names() {
        String ahead = "room a;room b;man m 0 a;man n 0 b;mirror g a m;";
        String[] wrong = {"door % a;", "door a %;", "man o 0 %;", "mirror h % m;"};
        for (String tell : wrong) {
            Checks.court(ahead + tell.replace("%", "b"));
            for (String name : List.of("c", "m", "n", "g", "o", "h", "aa")) {
                Checks.fault(ahead + tell.replace("%", name), NAME, ahead.length() + tell.indexOf('%'));
            }
        }
        for (String tell : List.of("goes % = 1;", "mirror h a %;")) {
            Checks.court(ahead + tell.replace("%", "n"));
            for (String name : List.of("o", "a", "b", "g", "h", "mm")) {
                Checks.fault(ahead + tell.replace("%", name), NAME, ahead.length() + tell.indexOf('%'));
            }
        }
        // ahead: what is told behind it is too late
        Checks.fault("man m 0 a;room a;", NAME, 8);
        Checks.fault("room a;door a b;room b;", NAME, 14);
        Checks.fault("room a;goes m=1;man m 0 a;", NAME, 12);
        Checks.fault("room a;mirror g a m;man m 0 a;", NAME, 18);
        Checks.fault("room a;man m 0 a;goes n=1 / 0;", NAME, 22);
    }

    private static void wrongNumbers() {
        for (int rank = 0; rank <= 20; rank += 5) {
            due("I RANK " + rank, rank, Checks.court("room a;man m " + rank + " a;").man(0, 0, 1));
        }
        for (String rank : List.of("21", "0021", "22", "99", "100", "9999")) {
            Checks.fault("room a;man m " + rank + " a;", WRONG, 13);
        }
        due("I RANK 0020", 20, Checks.court("room a;man m 0020 a;").man(0, 0, 1));
        for (String breaks : List.of("0", "1", "99", "100", "0100")) {
            Checks.court("breaks " + breaks + ";");
        }
        for (String breaks : List.of("101", "0101", "200", "9999")) {
            Checks.fault("breaks " + breaks + ";", WRONG, 7);
            Checks.fault("breaks 5;breaks " + breaks + ";breaks 6;", WRONG, 16);
        }
        Checks.court("seed 0;seed 9999;");
        due("I INTS of LAWS are as large as they like", 240,
                Checks.court("room a;man m 0 a;mirror g a m;late=9999;").mirror(0, 0, 1));
    }

    // ---- what a text leaves of the one ahead

    /** A text with a FAULT changes nothing but the tape. */
    private static void faultsChangeNothing() {
        for (String text : List.of("room z;room", "room z;" + "late=(((((((1)))))));", "room z;room z;",
                "room z;man z 0 z;", "room z;man m 3 y;", "room z;breaks 101;", "!", "room z;door z z;")) {
            LateMirrors x = Checks.court(FULL + "goes mf=1;late=2;breaks 0;seed 7;");
            x.minutes(3);
            x.turn(0, true);
            x.smash(1);
            x.hold(2);
            x.tell(0, 0, 0, true);
            x.raise(0, 9);
            Checks.feed(x, text);
            due("I a FAULT in " + text, true, x.read() > 0);
            int[] all = {8, 12, 6, 8, 3, 2, 1, 0, 4, 1, 1};
            for (int what = 0; what <= 10; what++) {
                due("I count " + what + " behind " + text, all[what], x.count(what));
            }
            due("I his rank behind " + text, 9, x.man(0, 3, 1));
            due("I how late behind " + text, 2, x.mirror(7, 3, 1));
            due("I he goes on behind " + text, 7, x.willBe(5, 1));
            due("I what is told behind " + text, 6, x.began(5, 0, 6));
            due("I undone behind " + text, true, x.undo());
            due("I restored behind " + text, true, x.restore(2));
            due("I minutes behind " + text, 4, x.minutes(1));
            due("I he went behind " + text, 7, x.man(5, 4, 0));
        }
    }

    /** Else it is in place of the one ahead, with nothing of that or of one with a fault left. */
    private static void goodTextsLeaveNothing() {
        for (String next : List.of("", "room a;", "room a;room b;man m 4 b;mirror g b m;")) {
            LateMirrors x = Checks.court(FULL + "goes ma=1;late=7;breaks 100;seed 9;");
            x.minutes(2);
            x.turn(0, true);
            x.hold(0);
            x.hold(1);
            x.hold(2);
            x.tell(7, 99, 5, false);
            Checks.feed(x, "room a;door a a;goes ma=2;");
            due("I a FAULT", TWICE, x.read());
            Checks.feed(x, next);
            due("I read of " + next, 0, x.read());
            int size = next.length();
            int[] all = {size > 7 ? 2 : size > 0 ? 1 : 0, 0, size > 7 ? 1 : 0, size > 7 ? 1 : 0, 0, 0, 0, 0, 0, 0, 0};
            for (int what = 0; what <= 10; what++) {
                due("I count " + what + " behind " + next, all[what], x.count(what));
            }
            due("I no place behind " + next, NONE, x.place());
            due("I nothing can be undone behind " + next, false, x.undo());
            for (int slot = 0; slot < 3; slot++) {
                due("I SLOTS hold nothing behind " + next, false, x.restore(slot));
            }
            due("I nothing is TOLD behind " + next, 0, x.forget());
            due("I minutes go by behind " + next, 9, x.minutes(9));
            due("I BREAKS 0 behind " + next, 0, x.count(5));
            due("I LATE by RANK behind " + next, size > 7 ? 5 : NONE, x.mirror(0, 9, 4));
            due("I he stays behind " + next, size > 7 ? 1 : NONE, x.man(0, 9, 0));
            due("I no door behind " + next, false, x.go(0, 1));
        }
        LateMirrors y = Checks.court("room a;room b;door a b;door a b;man m 0 a;");
        Checks.feed(y, "room a;room b;door b a;man m 0 a;");
        due("I the doors of the new text alone", 0, y.read());
        due("I its one way", false, y.go(0, 2));
        due("I its one way", true, y.go(0, 1));
    }

    /** GOES 0 and LATE by RANK, if not told; the last one told of GOES, LATE, BREAKS, SEED. */
    private static void lastOneTold() {
        String court = "room a;room b;door a b;man m 3 a;man n 4 b;mirror g a m;mirror h b n;";
        LateMirrors x = Checks.court(court);
        x.minutes(9);
        due("I GOES 0", 0, x.man(0, 9, 0));
        due("I GOES 0", 1, x.man(1, 9, 0));
        due("I LATE by RANK", 3, x.mirror(0, 9, 1));
        due("I LATE by RANK", 4, x.mirror(1, 9, 1));
        due("I BREAKS 0", 0, x.count(5));
        LateMirrors y = Checks.court(court + "goes m=0;late=8;breaks 0;seed 1;goes n=0;goes m=1;late=9;breaks 70;"
                + "seed 7;");
        // the first lots by seed 7: mirror 0 98 44, mirror 1 10; by seed 1 mirror 0 53
        y.minutes(1);
        due("I the last GOES of m", 1, y.man(0, 1, 0));
        due("I the only GOES of n", 1, y.man(1, 1, 0));
        due("I the last LATE", 9, y.mirror(0, 1, 1));
        due("I the last BREAKS and SEED", 2, y.count(5));
        LateMirrors z = Checks.court(court + "breaks 100;breaks 0;");
        z.minutes(9);
        due("I the last BREAKS", 0, z.count(5));
    }

    public static void main(String[] args) {
        newObject();
        feed();
        fullTape();
        back();
        readAndPlace();
        everyByte();
        longestTokens();
        goesOn();
        oneMoreOfASort();
        tokens401();
        ifsAndBrackets();
        firstFault();
        twice();
        names();
        wrongNumbers();
        faultsChangeNothing();
        goodTextsLeaveNothing();
        lastOneTold();
        Checks.end();
    }
}
