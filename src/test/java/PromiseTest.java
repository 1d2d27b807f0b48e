import java.util.List;

/** What the document's promises say, one by one, on courts small enough to be gone through by hand. */
public final class PromiseTest {
    private static final int NONE = LateMirrors.NONE;
    private static final int NOTHING = -2;
    private static final int BIG = Integer.MAX_VALUE;
    private static final int SMALL = Integer.MIN_VALUE;

    /**
     * The king stays in a (room 0); m is in a at even minutes, in b at odd ones; n stays in c.
     * Mirror 0 (the king's) hangs in a and is never late, 1 (m's) hangs in a and 2 (n's) in b, both 2 late.
     */
    private static final String WALK = "room a; room b; room c; door a b; door b c; man k 0 a; man m 2 a; man n 2 c;"
            + "goes m = 1; mirror g a k; mirror h a m; mirror i b n;";

    private PromiseTest() {
    }

    private static void due(String what, long want, long got) {
        Checks.due(what, want, got);
    }

    private static void due(String what, boolean want, boolean got) {
        Checks.due(what, want, got);
    }

    private static LateMirrors walk(int minutes) {
        LateMirrors x = Checks.court(WALK);
        due("minutes", minutes, x.minutes(minutes));
        return x;
    }

    private static void newObject() {
        LateMirrors x = new LateMirrors();
        for (int what = 0; what <= 10; what++) {
            due("count of a new object " + what, 0, x.count(what));
        }
        due("place of a new object", NONE, x.place());
        due("lonely of a new object", NOTHING, x.lonely());
        due("stand of a new object", NOTHING, x.stand(0));
        due("crowd of a new object", NOTHING, x.crowd(0, 0));
        due("crowd of a new object", NOTHING, x.crowd(0, 1));
        due("oldest of a new object", NOTHING, x.oldest(1));
        due("undo of a new object", false, x.undo());
        due("restore of a new object", false, x.restore(0));
        due("forget of a new object", 0, x.forget());
        due("man of a new object", NONE, x.man(0, 0, 0));
        due("rests of a new object", NONE, x.rests(0, 1, NONE));
    }

    private static void feedAndBack() {
        LateMirrors x = new LateMirrors();
        due("back of nothing", 0, x.back(0));
        due("back of one too many", NONE, x.back(1));
        due("back of less than nothing", NONE, x.back(-1));
        int room = 'r' << 24 | 'o' << 16 | 'o' << 8 | 'm';
        int name = ' ' << 24 | 'z' << 16 | ';' << 8 | ' ';
        due("feed", 20, x.feed(room, name, 0x20202020, 0x090a0d20, 0x20202080));
        due("back of one", 19, x.back(1));
        due("back of too many", NONE, x.back(20));
        due("back of very many", NONE, x.back(BIG));
        due("back of very few", NONE, x.back(SMALL));
        due("bytes on the tape", 19, x.count(7));
        due("read of what was fed", 0, x.read());
        due("a room of what was fed", 1, x.count(0));
        for (int n = 20; n <= 2000; n += 20) {
            due("feed", n, x.feed(-1, -1, -1, -1, -1));
        }
        due("feed beyond 2,000", NONE, x.feed(0, 0, 0, 0, 0));
        due("bytes", 2000, x.count(7));
        due("back", 1981, x.back(19));
        due("feed of one too many", NONE, x.feed(0, 0, 0, 0, 0));
        due("back", 1980, x.back(1));
        due("feed to the end", 2000, x.feed(0, 0, 0, 0, 0));
        due("back of all", 0, x.back(2000));
    }

    private static void readWhole() {
        LateMirrors x = Checks.court(WALK);
        due("rooms", 3, x.count(0));
        due("doors", 2, x.count(1));
        due("men", 3, x.count(2));
        due("mirrors", 3, x.count(3));
        due("place without a fault", NONE, x.place());
        due("read takes the tape", 0, x.count(7));
        x.minutes(3);
        x.turn(0, true);
        x.smash(1);
        x.hold(0);
        x.tell(0, 0, 0, true);
        Checks.feed(x, "room a; room b; door a b; man k 7 b;");
        due("read again", 0, x.read());
        for (int what = 3; what <= 10; what++) {
            due("count behind another text " + what, 0, x.count(what));
        }
        due("his rank", 7, x.man(0, 0, 1));
        due("his room", 1, x.man(0, 0, 0));
        due("nothing is held", false, x.restore(0));
        due("read of an empty tape", 0, x.read());
        due("no rooms", 0, x.count(0));
        readAfterOthers();
        readLawsAfterOthers();
        Checks.court("\t\n\r ");
        Checks.court("room a;man m 0020 a;breaks 100;breaks 0;seed 9999;late=1;late=2;goes m=1;goes m=0;");
        due("names and words", 1, Checks.court("room rooms; room mirrorsx;").count(0) - 1);
    }

    /** Of the texts that an object has read ahead, nothing is left. */
    private static void readAfterOthers() {
        LateMirrors x = new LateMirrors();
        String court = "room a; room b; door a b; man k 4 a; mirror g a k;";
        String law = "1" + " + 1".repeat(120);
        for (int n = 0; n < 5; n++) {
            Checks.feed(x, court + "breaks 30; seed 7; goes k = 2 - 1; late = " + law + " - 115; ");
            due("read", 0, x.read());
            due("late", 6, x.mirror(0, 0, 1));
            x.turn(0, true);
            x.minutes(6);
            due("gone", 0, x.man(0, 6, 0));
            due("broken", 1, x.count(5));
        }
        for (int n = 0; n < 2; n++) {
            Checks.feed(x, court);
            due("read", 0, x.read());
            due("not turned", 0, x.count(6));
            due("late by rank", 4, x.mirror(0, 0, 1));
            x.minutes(9);
            due("he stays", 0, x.visits(0, 1));
            due("whole", 0, x.count(5));
            x.turn(0, true);
        }
        // the first lots of mirror 0 by seed 0 are 70 42 75 27, by seed 1 53 94 16 57, by seed 7 98 44 79 54
        for (int n = 0; n < 2; n++) {
            Checks.feed(x, court + "breaks 40;");
            due("read", 0, x.read());
            x.minutes(3);
            due("no seed is seed 0", 0, x.count(5));
            x.minutes(1);
            due("no seed is seed 0", 1, x.count(5));
        }
    }

    private static void readLawsAfterOthers() {
        LateMirrors x = new LateMirrors();
        String court = "room a; room b; door a b; man k 0 a; man m 0 a; goes n = 0; goes n = 1;";
        for (String who : List.of("k", "k", "m", "k", "k", "m", "m")) {
            Checks.feed(x, court.replace("goes n", "goes " + who));
            due("read", 0, x.read());
            due("k", who.equals("k") ? 1 : 0, x.willBe(0, 1));
            due("m", who.equals("m") ? 1 : 0, x.willBe(1, 1));
        }
    }

    private static void readFaultsKeepAll() {
        LateMirrors x = walk(5);
        x.smash(2);
        x.turn(0, true);
        x.hold(1);
        x.tell(0, 0, 0, true);
        Checks.feed(x, "room z; room");
        due("read", 1, x.read());
        due("place", 12, x.place());
        int[] all = {3, 2, 3, 3, 5, 4, 1, 0, 3, 1, 1};
        for (int what = 0; what <= 10; what++) {
            due("count behind a fault " + what, all[what], x.count(what));
        }
        due("undo behind a fault", true, x.undo());
        due("restore behind a fault", true, x.restore(1));
        due("no new place by other calls", 12, x.place());
        due("read of the empty tape", 0, x.read());
        due("no place any more", NONE, x.place());
    }

    private static void syntax() {
        Checks.fault("room", 1, 4);
        Checks.fault("room a", 1, 6);
        Checks.fault("room a  \n", 1, 9);
        Checks.fault("a", 1, 0);
        Checks.fault(" 5", 1, 1);
        Checks.fault("; room a;", 1, 0);
        Checks.fault("room a;;", 1, 7);
        Checks.fault("room room;", 1, 5);
        Checks.fault("room with;", 1, 5);
        Checks.fault("room a5;", 1, 6);
        Checks.fault("room 5;", 1, 5);
        Checks.fault("room abcdefghi;", 1, 5);
        Checks.fault("rooma;", 1, 0);
        Checks.fault("Room a;", 1, 0);
        Checks.fault("room A;", 1, 5);
        Checks.fault("room a\u000b;", 1, 6);
        Checks.fault("room a\u0000;", 1, 6);
        Checks.fault("room a\u00e9;", 1, 6);
        Checks.fault("seed 12345;", 1, 5);
        Checks.fault("seed -1;", 1, 5);
        Checks.fault("man a b c;", 1, 6);
        Checks.fault("man a 1 2;", 1, 8);
        Checks.fault("door a;", 1, 6);
        Checks.fault("mirror a b c d;", 1, 13);
        Checks.fault("late 1;", 1, 5);
        Checks.fault("late =;", 1, 6);
        Checks.fault("late = 1", 1, 8);
        Checks.fault("late = 1 2;", 1, 9);
        Checks.fault("late = 1 +;", 1, 10);
        Checks.fault("late = + 1;", 1, 7);
        Checks.fault("late = (1;", 1, 9);
        Checks.fault("late = 1);", 1, 8);
        Checks.fault("late = ();", 1, 8);
        Checks.fault("late = name;", 1, 7);
        Checks.fault("late = 1 < 2;", 1, 9);
        Checks.fault("late = if 1 then 2 else 3;", 1, 12);
        Checks.fault("late = if 1 < 2 < 3 then 4 else 5;", 1, 16);
        Checks.fault("late = if 1 < 2 else 3;", 1, 16);
        Checks.fault("late = if 1 < 2 then 3;", 1, 22);
        Checks.fault("late = if if 1 < 2 then 3 else 4;", 1, 10);
        Checks.fault("late = if 1 < 2 then if 3 < 4 then 5 else 6 else 7;", 1, 21);
        Checks.fault("late = 1 + if 1 < 2 then 3 else 4;", 1, 11);
        Checks.fault("late = (if 1 < 2 then 3 else 4);", 1, 8);
        Checks.fault("late = if (1 < 2) then 3 else 4;", 1, 13);
        Checks.fault("goes = 1;", 1, 5);
        // what is told wrongly ahead of it is no matter: syntax comes first
        Checks.fault("room a; room a; door x y; man m 99 z; !", 1, 38);
    }

    private static String rooms(int n) {
        StringBuilder text = new StringBuilder();
        for (int i = 0; i < n; i++) {
            text.append("room r").append((char) ('a' + i)).append(';');
        }
        return text.toString();
    }

    private static void tooMany() {
        due("8 rooms", 8, Checks.court(rooms(8)).count(0));
        Checks.fault(rooms(9), 2, 8 * 8);
        Checks.fault(rooms(8) + "room", 2, 8 * 8);
        Checks.fault(rooms(9) + "!", 2, 8 * 8);
        String two = rooms(2);
        due("12 doors", 12, Checks.court(two + "door ra rb;".repeat(12)).count(1));
        Checks.fault(two + "door ra rb;".repeat(13), 2, 16 + 12 * 11);
        String men = "man a 0 ra;man b 0 ra;man c 0 ra;man d 0 ra;man e 0 ra;man f 0 ra;";
        due("6 men", 6, Checks.court(two + men).count(2));
        Checks.fault(two + men + "man g 0 ra;", 2, 16 + 66);
        StringBuilder mirrors = new StringBuilder(two + men);
        for (int i = 0; i < 8; i++) {
            mirrors.append("mirror m").append((char) ('a' + i)).append(" ra a;");
        }
        due("8 mirrors", 8, Checks.court(mirrors.toString()).count(3));
        Checks.fault(mirrors + "mirror mi ra a;", 2, mirrors.length());
        String branch = "if 1 < 2 then 3 else ";
        Checks.court("late = " + branch.repeat(4) + "5;");
        Checks.fault("late = " + branch.repeat(5) + "5;", 2, 7 + 4 * 21);
        Checks.court("late = " + branch.repeat(4) + "5; late = " + branch.repeat(4) + "5;");
        Checks.court("late = ((((((1)))))) + ((((((2))))));");
        Checks.fault("late = (((((((1)))))));", 2, 13);
        Checks.fault("late = ((((((1+((2)))))));", 2, 15);
        // a hundred laws of four tokens are 400
        String law = "late=1;";
        Checks.court(law.repeat(100));
        Checks.fault(law.repeat(100) + "late=1;", 2, 700);
        Checks.fault(law.repeat(100) + "1", 1, 700);
        Checks.fault(law.repeat(99) + "late=1+", 1, 700);
        Checks.fault(law.repeat(99) + "late=1+1", 2, 700 - 1 + 1);
        Checks.fault(law.repeat(99) + "late=1 !", 1, 700);
        // of room and twice, room comes first, wherever it stands
        Checks.fault("room a; room a; late = (((((((1)))))));", 2, 29);
    }

    private static void names() {
        Checks.fault("room a; room a;", 3, 13);
        Checks.fault("room a; man a 0 a;", 3, 12);
        Checks.fault("room a; man m 0 a; mirror m a m;", 3, 26);
        Checks.fault("room a; man m 0 a; room m;", 3, 24);
        Checks.fault("room a; man m 0 a; mirror g a m; man g 0 a;", 3, 37);
        Checks.fault("room a; door a a;", 3, 15);
        Checks.fault("door a a;", 4, 5);
        Checks.fault("room a; door a b; room b;", 4, 15);
        Checks.fault("room a; door b a;", 4, 13);
        Checks.fault("man m 0 m;", 4, 8);
        Checks.fault("room a; man m 0 a; goes a = 1;", 4, 24);
        Checks.fault("goes m = 1;", 4, 5);
        Checks.fault("room a; man m 0 a; mirror g m m;", 4, 28);
        Checks.fault("room a; man m 0 a; mirror g a a;", 4, 30);
        Checks.fault("room a; man m 0 a; mirror g a g;", 4, 30);
        Checks.fault("room a; man m 21 a;", 5, 14);
        Checks.fault("room a; man m 21 z;", 5, 14);
        Checks.fault("room a; man a 21 z;", 3, 12);
        Checks.fault("breaks 101;", 5, 7);
        Checks.fault("breaks 9999;", 5, 7);
        Checks.fault("breaks 101; room a; room a;", 5, 7);
        Checks.fault("room a; room a; breaks 101;", 3, 13);
        Checks.court("room a; man m 20 a; breaks 100; seed 0;");
    }

    private static void man() {
        LateMirrors x = walk(3);
        due("his room then", 0, x.man(1, 2, 0));
        due("his room now", 1, x.man(1, 3, 0));
        due("his rank", 2, x.man(1, 3, 1));
        x.raise(1, 9);
        due("his rank now", 9, x.man(1, 3, 1));
        due("his rank then", 2, x.man(1, 2, 1));
        x.minutes(1);
        due("his rank goes on", 9, x.man(1, 4, 1));
        due("a minute to come", NONE, x.man(1, 5, 0));
        due("no minute", NONE, x.man(1, -1, 0));
        due("no man", NONE, x.man(3, 0, 0));
        due("no man", NONE, x.man(-1, 0, 0));
        due("no what", NONE, x.man(0, 0, 2));
        due("no what", NONE, x.man(0, 0, -1));
        due("far", NONE, x.man(BIG, BIG, 0));
    }

    private static void mirror() {
        LateMirrors x = walk(5);
        int[][] all = {{0, 0, 0, 0, 5, 0, 1}, {0, 2, 0, 0, 3, 0, 1}, {1, 2, 0, 0, 3, 1, 2}};
        for (int m = 0; m < 3; m++) {
            for (int what = 0; what < 7; what++) {
                due("mirror " + m + " what " + what, all[m][what], x.mirror(m, 5, what));
            }
        }
        due("nothing yet", NOTHING, x.mirror(1, 1, 4));
        due("no room yet", NOTHING, x.mirror(1, 1, 5));
        due("no men yet", 0, x.mirror(1, 1, 6));
        due("the first minute", 0, x.mirror(1, 2, 4));
        for (int[] wrong : new int[][] {{3, 0, 0}, {-1, 0, 0}, {0, 6, 0}, {0, -1, 0}, {0, 0, 7}, {0, 0, -1}}) {
            due("no such ones", NONE, x.mirror(wrong[0], wrong[1], wrong[2]));
        }
        x.turn(1, true);
        due("turned", 1, x.mirror(1, 5, 2));
        due("not turned then", 0, x.mirror(1, 4, 2));
        due("turned shows nothing", NOTHING, x.mirror(1, 5, 4));
        due("then it showed", 2, x.mirror(1, 4, 4));
        x.minutes(1);
        x.turn(1, false);
        due("back it shows", 4, x.mirror(1, 6, 4));
        x.minutes(1);
        due("nothing of the minute in which it was turned", NOTHING, x.mirror(1, 7, 4));
        due("its room then neither", NOTHING, x.mirror(1, 7, 5));
        due("its men then neither", 0, x.mirror(1, 7, 6));
        x.carry(1, 2);
        x.minutes(1);
        due("the room in which it hung", 0, x.mirror(1, 8, 5));
        due("hangs elsewhere", 2, x.mirror(1, 8, 0));
        x.minutes(1);
        due("the other room", 2, x.mirror(1, 9, 5));
        due("who was there", 4, x.mirror(1, 9, 6));
    }

    private static void brokenMirror() {
        LateMirrors x = walk(5);
        x.smash(1);
        due("broken", 1, x.mirror(1, 5, 3));
        due("not broken then", 0, x.mirror(1, 4, 3));
        due("shows as it broke", 3, x.mirror(1, 5, 4));
        x.raise(1, 4);
        due("shows that whatever its owner is", 3, x.mirror(1, 5, 4));
        due("how late goes on", 4, x.mirror(1, 5, 1));
        x.minutes(4);
        due("shows that for ever", 3, x.mirror(1, 9, 4));
        due("shows its room for ever", 0, x.mirror(1, 9, 5));
        due("what it showed ahead", 2, x.mirror(1, 4, 4));
        x.turn(1, true);
        due("turned and broken", NOTHING, x.mirror(1, 9, 4));
        x.turn(1, false);
        due("back and broken", 3, x.mirror(1, 9, 4));
        x.turn(2, true);
        x.smash(2);
        x.turn(2, false);
        due("broke while it showed nothing", NOTHING, x.mirror(2, 9, 4));
        x.minutes(3);
        due("shows nothing for ever", NOTHING, x.mirror(2, 12, 4));
        LateMirrors y = walk(1);
        y.smash(1);
        y.minutes(9);
        due("broke too early", NOTHING, y.mirror(1, 10, 4));
        y.smash(0);
        y.turn(0, true);
        y.minutes(1);
        y.turn(0, false);
        due("turned at the minute in which it broke", NOTHING, y.mirror(0, 11, 4));
    }

    private static void laws() {
        String court = "room a; room b; door a b; man k 3 a; man m 4 a; mirror f b k; mirror g a m; late = ";
        String[] laws = {"1 + 2 * 3", "(1 + 2) * 3", "10 - 3 - 2", "20 / 3 / 2", "0 - 7 / 2 + 9", "rank * 10 + number",
            "here * 100 + ways * 10 + with", "minute + 5", "5 / (minute - minute)", "300", "0 - 1",
            "if minute < 0 then 1 / 0 else 4", "if 1 / 0 < 5 then 7 else 8", "if 2 < 2 then 1 else 5",
            "if 2 < 3 then 1 else 5", "if 3 < 2 then 1 else if rank < 4 then 2 else 3", "if 1 < 2 then 1 else 2 / 0",
            "0 * (1 / 0) + 3", "9999 * 9999 * 100", "9999 * 9999 * 9999",
            "(0 - 9999 * 9999 * 22) / 0", "0 - (0 - 9) / 2", "2 * (3 + 4) * (5 - (6 - 7))", "240", "241",
            "((((((7))))))", "8 / 3 * 3", "1 - 1 + 1", "if number < 1 then 11 else 22"};
        int[] first = {7, 9, 5, 3, 6, 30, 110, 5, 0, 240, 0, 4, 0, 5, 1, 2, 1, 0, 240, 0, 0, 4, 84, 240, 240, 7, 6, 1, 11};
        for (int i = 0; i < laws.length; i++) {
            due("late = " + laws[i], first[i], Checks.court(court + laws[i] + ";").mirror(0, 0, 1));
        }
        due("of the other", 41, Checks.court(court + "rank * 10 + number;").mirror(1, 0, 1));
        due("of the other", 12, Checks.court(court + "here * 100 + ways * 10 + with;").mirror(1, 0, 1));
        due("without", 4, Checks.court(court + "1; late = rank;").mirror(1, 0, 1));
        due("untold", 3, Checks.court(court.replace("late = ", "")).mirror(0, 0, 1));
        LateMirrors x = Checks.court(court + "minute;");
        x.minutes(6);
        due("the minute", 6, x.mirror(0, 6, 1));
        due("the minute then", 2, x.mirror(0, 2, 1));
    }

    private static int goneTo(String law) {
        LateMirrors x = Checks.court("room a; room b; room c; room d; door a b; door c a; door a b; door d a;"
                + "man k 0 d; man m 7 a; man o 0 a; goes k = 0; goes m = " + law + ";");
        x.minutes(1);
        return x.man(1, 1, 0);
    }

    private static void minutes() {
        String[] laws = {"0", "1", "2", "3", "4", "5", "6", "0 - 1", "0 - 6", "minute", "minute + 1", "rank", "number",
            "ways", "with", "here + 2", "1 / 0", "if with < 2 then 2 else 4"};
        int[] rooms = {0, 1, 2, 1, 3, 0, 1, 0, 0, 0, 1, 2, 1, 3, 1, 2, 0, 2};
        for (int i = 0; i < laws.length; i++) {
            due("goes m = " + laws[i], rooms[i], goneTo(laws[i]));
        }
        // by what was: two who go to each other pass each other
        LateMirrors x = Checks.court("room a; room b; door a b; man k 0 a; man m 0 b; goes k = 1 - with;"
                + "goes m = 1 - with;");
        x.minutes(1);
        due("the one", 1, x.man(0, 1, 0));
        due("the other", 0, x.man(1, 1, 0));
        due("no minutes", 1, x.minutes(0));
        due("nothing done", 1, x.count(8));
        due("less than none", NONE, x.minutes(-1));
        due("too many", NONE, x.minutes(300));
        due("beyond", NONE, x.minutes(299));
        due("far beyond", NONE, x.minutes(BIG));
        due("nothing happened", 1, x.count(4));
        due("to the end", 299, x.minutes(298));
        due("none at the end", 299, x.minutes(0));
        due("one more", NONE, x.minutes(1));
    }

    private static void breaking() {
        // lots of seed 7 at minutes 1 .. 12: mirror 0 98 44 79 54 76 10 49 59 29 4 10 77, mirror 1 10 11 13 ..
        String court = "room a; man k 1 a; mirror g a k; mirror h a k; seed 7; breaks ";
        int[][] all = {{0, 300, 300}, {5, 10, 300}, {10, 10, 300}, {11, 6, 1}, {30, 6, 1}, {45, 2, 1}, {99, 1, 1}};
        for (int[] one : all) {
            LateMirrors x = Checks.court(court + one[0] + ";");
            for (int t = 1; t <= 12; t++) {
                x.minutes(1);
                due("breaks " + one[0] + " at " + t, t >= one[1] ? 1 : 0, x.mirror(0, t, 3));
                if (one[2] < 300) {
                    due("the other breaks " + one[0] + " at " + t, t >= one[2] ? 1 : 0, x.mirror(1, t, 3));
                }
            }
        }
        LateMirrors x = Checks.court(court + "30;");
        x.minutes(9);
        due("shows as it broke", 5, x.mirror(0, 9, 4));
        due("broke at the first", 0, x.mirror(1, 9, 4));
        due("broken ones", 3, x.count(5));
        due("not at minute 0", 0, Checks.court(court + "100;").count(5));
        // it breaks when all have gone: with two in its room it is 2 late
        LateMirrors y = Checks.court("room a; room b; door a b; man k 1 a; man m 1 b;"
                + "mirror g a k; late = with; breaks 11; seed 7; goes m = if minute < 5 then 0 else 1;");
        y.minutes(8);
        due("as late as it is when all have gone", 4, y.mirror(0, 8, 4));
    }

    private static void go() {
        LateMirrors x = walk(1);
        due("no door 0", false, x.go(1, 0));
        due("no door -1", false, x.go(1, -1));
        due("no door 3", false, x.go(1, 3));
        due("no man", false, x.go(3, 1));
        due("no man", false, x.go(-1, 1));
        due("nothing done", 1, x.count(8));
        due("through the second", true, x.go(1, 2));
        due("he is there", 2, x.man(1, 1, 0));
        due("at this minute alone", 0, x.man(1, 0, 0));
        due("through the only one", true, x.go(1, 1));
        due("he is back", 1, x.man(1, 1, 0));
        due("through the first", true, x.go(1, 1));
        due("done", 4, x.count(8));
        LateMirrors y = Checks.court("room a; room b; room c; door a b; door a b; door c a; man k 0 a; mirror g a k; late = with;");
        due("late by him", 1, y.mirror(0, 0, 1));
        due("the door told twice", true, y.go(0, 2));
        due("there", 1, y.man(0, 0, 0));
        due("not late without him", 0, y.mirror(0, 0, 1));
        y.undo();
        due("the third", true, y.go(0, 3));
        due("there", 2, y.man(0, 0, 0));
    }

    private static void raise() {
        LateMirrors x = walk(9);
        due("his rank already", false, x.raise(1, 2));
        due("too low", false, x.raise(1, 21));
        due("too high", false, x.raise(1, -1));
        due("no man", false, x.raise(3, 1));
        due("no man", false, x.raise(-1, 1));
        due("nothing done", 1, x.count(8));
        due("raised", true, x.raise(1, 5));
        due("later at once", 4, x.mirror(1, 9, 4));
        due("not then", 6, x.mirror(1, 8, 4));
        due("lowest", true, x.raise(1, 20));
        due("highest", true, x.raise(1, 0));
        due("not late", 9, x.mirror(1, 9, 4));
        due("of others nothing", 7, x.mirror(2, 9, 4));
    }

    private static void carry() {
        LateMirrors x = walk(4);
        due("hangs there", false, x.carry(1, 0));
        due("no mirror", false, x.carry(3, 0));
        due("no mirror", false, x.carry(-1, 0));
        due("no room", false, x.carry(0, 3));
        due("no room", false, x.carry(0, -1));
        due("carried", true, x.carry(1, 2));
        due("there", 2, x.mirror(1, 4, 0));
        due("not then", 0, x.mirror(1, 3, 0));
        due("done", 2, x.count(8));
        x.smash(0);
        x.turn(0, true);
        due("broken and turned ones too", true, x.carry(0, 1));
        LateMirrors y = Checks.court("room a; room b; man k 0 a; mirror g a k; late = here + 2 * with;");
        due("late here", 2, y.mirror(0, 0, 1));
        y.carry(0, 1);
        due("late there", 1, y.mirror(0, 0, 1));
    }

    private static void turn() {
        LateMirrors x = walk(4);
        due("not turned", false, x.turn(1, false));
        due("no mirror", false, x.turn(3, true));
        due("no mirror", false, x.turn(-1, true));
        due("turned", true, x.turn(1, true));
        due("turned already", false, x.turn(1, true));
        due("another", true, x.turn(2, true));
        due("bits", 6, x.count(6));
        due("back", true, x.turn(1, false));
        due("bits", 4, x.count(6));
        x.minutes(1);
        due("turned for long", 1, x.mirror(2, 5, 2));
        due("done", 5, x.count(8));
    }

    private static void smash() {
        LateMirrors x = walk(4);
        due("no mirror", false, x.smash(3));
        due("no mirror", false, x.smash(-1));
        due("broken", true, x.smash(2));
        due("broken already", false, x.smash(2));
        due("bits", 4, x.count(5));
        due("done", 2, x.count(8));
        x.minutes(3);
        due("broken for ever", false, x.smash(2));
    }

    private static void undo() {
        LateMirrors x = walk(4);
        x.go(1, 1);
        x.raise(1, 7);
        x.carry(1, 1);
        x.turn(1, true);
        x.smash(2);
        x.minutes(5);
        x.turn(1, false);
        due("done", 8, x.count(8));
        due("undo of turn", true, x.undo());
        due("turned", 2, x.count(6));
        due("undo of minutes", true, x.undo());
        due("the minute", 4, x.count(4));
        due("undo of smash", true, x.undo());
        due("whole", 0, x.count(5));
        due("shows", 2, x.mirror(2, 4, 4));
        due("undo of turn", true, x.undo());
        due("not turned", 0, x.count(6));
        due("undo of carry", true, x.undo());
        due("hangs", 0, x.mirror(1, 4, 0));
        due("undo of raise", true, x.undo());
        due("late", 2, x.mirror(1, 4, 1));
        due("undo of go", true, x.undo());
        due("his room", 0, x.man(1, 4, 0));
        due("undo of minutes", true, x.undo());
        due("the beginning", 0, x.count(4));
        due("nothing to undo", false, x.undo());
        due("nothing to undo", 0, x.count(8));
        for (int n = 0; n < 25; n++) {
            x.raise(0, 1 + n % 2);
        }
        due("20 at most", 20, x.count(8));
        for (int n = 0; n < 20; n++) {
            due("undo", true, x.undo());
        }
        due("not the 21st", false, x.undo());
        due("as behind the fifth", 1, x.man(0, 0, 1));
        LateMirrors y = Checks.court("room a; man k 1 a; mirror g a k; breaks 100;");
        y.minutes(2);
        due("broken by itself", 1, y.count(5));
        y.undo();
        due("whole again", 0, y.count(5));
    }

    private static void look() {
        LateMirrors x = walk(8);
        // mirrors 0 and 1 hang in a: 0 shows 8, 1 shows 6
        due("one in one", 6, x.look(0, 1, NONE, 0));
        due("its room", 0, x.look(0, 1, NONE, 1));
        due("its men", 3, x.look(0, 1, NONE, 2));
        due("the other way", 6, x.look(1, 0, NONE, 0));
        due("three", 6, x.look(0, 1, 0, 0));
        due("three", 4, x.look(1, 0, 1, 0));
        due("not seen", NOTHING, x.look(0, 2, NONE, 0));
        due("not seen in that", NOTHING, x.look(0, 1, 2, 0));
        due("in itself", NOTHING, x.look(0, 0, NONE, 0));
        due("in itself", NOTHING, x.look(0, 1, 1, 0));
        for (int[] wrong : new int[][] {{3, 0, 1}, {0, 3, 1}, {0, 1, 3}, {-1, 0, 1}, {0, -1, 0}, {0, 1, -2}}) {
            due("no such ones", NONE, x.look(wrong[0], wrong[1], wrong[2], 0));
        }
        due("no what", NONE, x.look(0, 1, NONE, 3));
        due("no what", NONE, x.look(0, 0, NONE, -1));
        x.carry(1, 1);
        due("it is not here now", NOTHING, x.look(0, 1, NONE, 0));
        due("but it was here when", 6, x.look(1, 0, NONE, 0));
        x.turn(1, true);
        due("shows nothing", NOTHING, x.look(1, 0, NONE, 0));
        LateMirrors z = walk(4);
        z.carry(1, 1);
        z.minutes(1);
        z.carry(1, 0);
        z.minutes(1);
        // at 6 mirror 1 hangs in a again and shows 4, when it hung in b; mirror 0 hung in a
        due("the room where the last one hung", 1, z.look(0, 1, NONE, 1));
        due("nobody in it", 0, z.look(0, 1, NONE, 2));
        due("as it hung elsewhere then", NOTHING, z.look(0, 1, 0, 0));
        z.carry(2, 0);
        z.raise(2, 1);
        z.minutes(1);
        z.raise(2, 3);
        // at 7: 2 hangs in a since 6, shows 4, when it hung in b; 0 shows 7, 1 shows 5
        due("the last elsewhere then", 1, z.look(0, 2, NONE, 1));
        LateMirrors w = Checks.court("room a; room b; man k 0 a; man m 3 a; mirror f a k; mirror g a k; mirror h b m;");
        w.minutes(5);
        w.carry(2, 0);
        due("of three the last one's room", 1, w.look(0, 1, 2, 1));
        due("of three the last one's men", 0, w.look(0, 1, 2, 2));
        due("of three the last one's minute", 2, w.look(0, 1, 2, 0));
        LateMirrors y = walk(1);
        due("the last shows nothing", NOTHING, y.look(0, 1, NONE, 0));
        due("the first shows nothing", NOTHING, y.look(1, 0, NONE, 0));
    }

    private static void last() {
        LateMirrors x = walk(4);
        due("now too", 4, x.last(1, 0));
        due("ahead", 3, x.last(1, 1));
        due("never", NOTHING, x.last(1, 2));
        due("no man", NONE, x.last(3, 0));
        due("no room", NONE, x.last(0, 3));
        due("no room", NONE, x.last(0, NONE));
        x.go(1, 1);
        due("not now", 2, x.last(1, 0));
    }

    private static void visits() {
        LateMirrors x = walk(4);
        due("with now", 3, x.visits(1, 0));
        due("ahead", 2, x.visits(1, 1));
        due("never", 0, x.visits(1, 2));
        due("moves", 4, x.visits(1, NONE));
        due("no moves", 0, x.visits(0, NONE));
        due("no man", NONE, x.visits(-1, 0));
        due("no room", NONE, x.visits(1, 3));
        due("no room", NONE, x.visits(1, -2));
        x.go(1, 1);
        due("less a move by hand", 3, x.visits(1, NONE));
    }

    private static void alone() {
        LateMirrors x = walk(4);
        due("the king", 2, x.alone(0, false));
        due("in a row", 1, x.alone(0, true));
        due("m", 2, x.alone(1, false));
        due("n", 5, x.alone(2, false));
        due("in a row", 5, x.alone(2, true));
        due("no man", NONE, x.alone(3, false));
        due("no man", NONE, x.alone(-1, true));
        due("lonely", 2, x.lonely());
        x.go(1, 1);
        due("one more", 3, x.alone(0, false));
        due("a longer row", 2, x.alone(0, true));
        LateMirrors y = Checks.court("room a; room b; man k 0 a; man m 0 a; man n 0 b; man o 0 b;");
        due("the first of alike ones", 0, y.lonely());
        due("nobody is", 0, y.alone(0, false));
        LateMirrors z = Checks.court("room a; room b; room c; man k 0 a; man m 0 a; man n 0 b; man o 0 c;");
        due("the first of the most", 2, z.lonely());
        due("no men", NOTHING, Checks.court("room a;").lonely());
    }

    private static void together() {
        LateMirrors x = walk(5);
        due("how often", 3, x.together(0, 1, 0));
        due("the last", 4, x.together(1, 0, 1));
        due("never", 0, x.together(0, 2, 0));
        due("no last", NOTHING, x.together(0, 2, 1));
        due("one and the same", NONE, x.together(1, 1, 0));
        due("no man", NONE, x.together(0, 3, 0));
        due("no man", NONE, x.together(-1, 0, 0));
        due("no what", NONE, x.together(0, 1, 2));
        due("no what", NONE, x.together(0, 1, -1));
        x.minutes(1);
        due("now too", 6, x.together(0, 1, 1));
    }

    private static void facing() {
        LateMirrors x = walk(8);
        int[] minutes = {8, 6, 6, 4, 4, 2, 2, 0, 0};
        due("how often", 9, x.facing(0, 1, NONE));
        for (int i = 0; i < 9; i++) {
            due("by the " + i, minutes[i], x.facing(0, 1, i));
        }
        due("not so often", NONE, x.facing(0, 1, 9));
        due("the other first", 6, x.facing(1, 0, 0));
        due("how often", 8, x.facing(1, 0, NONE));
        due("not seen", 1, x.facing(0, 2, NONE));
        due("one and the same", NONE, x.facing(1, 1, NONE));
        due("no mirror", NONE, x.facing(3, 0, NONE));
        due("no mirror", NONE, x.facing(0, -1, NONE));
        due("no place", NONE, x.facing(0, 1, -2));
        due("none", 0, walk(1).facing(1, 0, NONE));
        LateMirrors y = Checks.court("room a; man k 0 a; mirror g a k; mirror h a k;");
        due("20 at most", 20, y.facing(0, 1, NONE));
        due("the last of them", 0, y.facing(0, 1, 19));
        due("none behind", NONE, y.facing(0, 1, 20));
    }

    private static void glimpses() {
        LateMirrors x = walk(5);
        // the king in a: mirror 0 shows m at even minutes, mirror 1 likewise from 2 on
        due("the king sees m", 3, x.glimpses(0, 1, 0));
        due("first", 0, x.glimpses(0, 1, 1));
        // m is in a at 0, 2, 4 and sees the king there; in b at 1 (nothing), 3, 5, which show b
        due("m sees the king", 3, x.glimpses(1, 0, 0));
        due("nobody sees n", 0, x.glimpses(0, 2, 0));
        due("no first", NOTHING, x.glimpses(1, 2, 1));
        due("one and the same", NONE, x.glimpses(1, 1, 0));
        due("no man", NONE, x.glimpses(3, 0, 0));
        due("no man", NONE, x.glimpses(0, -1, 0));
        due("no what", NONE, x.glimpses(0, 1, 2));
        x.carry(2, 2);
        x.minutes(2);
        // mirror 2 hangs in c now; at 5 it shows b at 3, at 6 b at 4, at 7 c at 5
        due("n sees m", 1, x.glimpses(2, 1, 0));
        due("n sees m first", 5, x.glimpses(2, 1, 1));
    }

    private static void ghosts() {
        LateMirrors x = walk(5);
        // in a: mirror 0 shows a now, mirror 1 shows a at 3: nobody has gone; in b: m at 3 and m is there
        due("none in a", 0, x.ghosts(0));
        due("none in b", 0, x.ghosts(1));
        x.go(1, 1);
        due("m was in b", 2, x.ghosts(1));
        due("none in a", 0, x.ghosts(0));
        due("no mirror", 0, x.ghosts(2));
        due("no room", NONE, x.ghosts(3));
        due("no room", NONE, x.ghosts(-1));
        LateMirrors y = walk(4);
        y.go(1, 1);
        due("m was in a", 2, y.ghosts(0));
        y.turn(1, true);
        due("turned", 0, y.ghosts(0));
    }

    private static void oldest() {
        LateMirrors x = walk(5);
        due("the first of alike ones", 1, x.oldest(0));
        due("its minute", 3, x.oldest(1));
        x.raise(2, 5);
        due("the other", 2, x.oldest(0));
        due("its minute", 0, x.oldest(1));
        x.raise(2, 6);
        due("shows nothing", 1, x.oldest(0));
        due("no what", NONE, x.oldest(2));
        due("no what", NONE, x.oldest(-1));
        for (int m = 0; m < 3; m++) {
            x.turn(m, true);
        }
        due("none shows anything", NOTHING, x.oldest(0));
        due("none shows anything", NOTHING, x.oldest(1));
        due("no what first", NONE, x.oldest(2));
    }

    private static void shown() {
        LateMirrors x = walk(5);
        due("none twice", 0, x.shown(1, false));
        due("none skipped", 0, x.shown(1, true));
        x.raise(1, 3);
        // 0 1 2 3 4 5: nothing, nothing, 0, 1, 2, 2
        due("2 twice", 1, x.shown(1, false));
        due("none skipped", 0, x.shown(1, true));
        x.raise(1, 0);
        due("3 and 4 skipped", 2, x.shown(1, true));
        due("none twice", 0, x.shown(1, false));
        x.smash(1);
        x.minutes(5);
        due("5 again and again", 1, x.shown(1, false));
        due("no mirror", NONE, x.shown(3, true));
        due("no mirror", NONE, x.shown(-1, false));
        due("never shown", 0, walk(1).shown(1, true));
    }

    private static void deepest() {
        LateMirrors x = walk(8);
        due("least from 0", 4, x.deepest(0, 0));
        due("by so many", 4, x.deepest(0, 1));
        due("least from 1", 4, x.deepest(1, 0));
        due("by so many", 3, x.deepest(1, 1));
        due("least from 2", 6, x.deepest(2, 0));
        due("by itself", 1, x.deepest(2, 1));
        due("no what", NONE, x.deepest(0, 2));
        due("no what", NONE, x.deepest(0, -1));
        due("no mirror", NONE, x.deepest(3, 0));
        due("no mirror", NONE, x.deepest(-1, 0));
        due("nothing", NOTHING, walk(1).deepest(1, 0));
        due("nothing", NOTHING, walk(1).deepest(1, 1));
        due("no what first", NONE, walk(1).deepest(1, 2));
    }

    private static void crowd() {
        LateMirrors x = walk(5);
        due("a then", 0, x.crowd(4, 0));
        due("two", 2, x.crowd(4, 1));
        due("the first of alike ones", 0, x.crowd(5, 0));
        due("one", 1, x.crowd(5, 1));
        x.go(1, 2);
        due("c now", 2, x.crowd(5, 0));
        due("two", 2, x.crowd(5, 1));
        due("not yet", NONE, x.crowd(6, 0));
        due("no minute", NONE, x.crowd(-1, 0));
        due("no what", NONE, x.crowd(0, 2));
        due("no what", NONE, x.crowd(0, -1));
        LateMirrors y = Checks.court("room a; room b;");
        due("without men", 0, y.crowd(0, 0));
        due("nobody", 0, y.crowd(0, 1));
        due("no rooms, no minute", NONE, new LateMirrors().crowd(1, 0));
    }

    private static void rankFor() {
        LateMirrors x = walk(5);
        due("now", 0, x.rankFor(1, 5));
        due("his own", 2, x.rankFor(1, 3));
        due("the first minute", 5, x.rankFor(1, 0));
        due("not yet", NONE, x.rankFor(1, 6));
        due("no minute", NONE, x.rankFor(1, -1));
        due("no mirror", NONE, x.rankFor(3, 0));
        due("no mirror", NONE, x.rankFor(-1, 0));
        x.minutes(25);
        due("the lowest", 20, x.rankFor(1, 10));
        due("with none", NOTHING, x.rankFor(1, 9));
        x.turn(1, true);
        due("turned", NOTHING, x.rankFor(1, 28));
        x.minutes(2);
        x.turn(1, false);
        due("turned then", NOTHING, x.rankFor(1, 31));
        due("as ahead", 4, x.rankFor(1, 28));
        due("nothing is given", 2, x.man(1, 32, 1));
        x.smash(1);
        due("broken", NOTHING, x.rankFor(1, 30));
        LateMirrors y = Checks.court("room a; man k 0 a; mirror g a k; late = rank / 3;");
        y.minutes(9);
        due("the least of those", 6, y.rankFor(0, 7));
    }

    private static void view() {
        LateMirrors x = walk(5);
        // n in c is two doors from a; mirror 1 shows a at minute t - 2, mirror 0 shows a at minute t
        due("a at 5", 7, x.view(2, 0, 5, 0));
        due("by 1", 1, x.view(2, 0, 5, 1));
        due("a at 5 from a", 5, x.view(0, 0, 5, 0));
        due("by 0", 0, x.view(0, 0, 5, 1));
        due("a at 4 from a", 6, x.view(0, 0, 4, 0));
        due("a at 4 from c", NOTHING, x.view(2, 0, 4, 0));
        due("b at 4 from c", 6, x.view(2, 1, 4, 0));
        due("by 2", 2, x.view(2, 1, 4, 1));
        due("b at 3 from b", 5, x.view(1, 1, 3, 0));
        due("c at 5", NOTHING, x.view(0, 2, 5, 0));
        due("no man", NONE, x.view(3, 0, 0, 0));
        due("no room", NONE, x.view(0, 3, 0, 0));
        due("not yet", NONE, x.view(0, 0, 6, 0));
        due("no minute", NONE, x.view(0, 0, -1, 0));
        due("no what", NONE, x.view(0, 0, 0, 2));
        due("nothing happened", 5, x.count(4));
        LateMirrors y = Checks.court("room a; room b; man k 0 a; man m 0 b; mirror g a k;");
        due("no way", NOTHING, y.view(1, 0, 0, 0));
        due("there", 0, y.view(0, 0, 0, 0));
    }

    private static void willBe() {
        LateMirrors x = walk(5);
        due("now", 1, x.willBe(1, 0));
        due("then", 0, x.willBe(1, 1));
        due("then", 1, x.willBe(1, 2));
        due("at the end", 1, x.willBe(1, 294));
        due("no farther", 1, x.willBe(1, 299));
        due("no farther", 1, x.willBe(1, 295));
        due("too far", NONE, x.willBe(1, 300));
        due("no such", NONE, x.willBe(1, -1));
        due("no man", NONE, x.willBe(3, 0));
        due("nothing happened", 5, x.count(4));
        due("nothing done", 1, x.count(8));
        due("he goes on from there", 0, x.minutes(1) - 6 + x.man(1, 6, 0));
    }

    private static void rests() {
        // three mirrors that are not late: in a one sees o, p and q, in b s, in c nobody
        LateMirrors x = Checks.court("room a; room b; room c; man k 0 c; man m 0 c; man o 0 a; man p 0 a; man q 0 a;"
                + "man s 0 b; mirror g a k; mirror h a k; mirror i b k;");
        // a alone is worth 3, b 1, c 0; together less 2: 1, -1, -2
        due("of k and m", 3, x.rests(0, 1, NONE));
        due("both in a", 0, x.rests(0, 1, 0));
        due("the one in a", 1, x.rests(0, 1, 1));
        due("the other in a", 10, x.rests(0, 1, 2));
        due("not so many", NONE, x.rests(0, 1, 3));
        due("no place", NONE, x.rests(0, 1, -2));
        // without o and p: a is worth 1, b 1, c 0
        due("of o and p", 2, x.rests(2, 3, NONE));
        due("a and b", 1, x.rests(2, 3, 0));
        due("b and a", 10, x.rests(2, 3, 1));
        due("one and the same", NONE, x.rests(0, 0, NONE));
        due("no man", NONE, x.rests(6, 0, NONE));
        due("no man", NONE, x.rests(0, -1, NONE));
    }

    private static void still() {
        LateMirrors x = walk(5);
        due("a now", 3, x.still(0, 5));
        due("a at 3", 2, x.still(0, 3));
        due("a at 2", 0, x.still(0, 2));
        due("b at 4", 4, x.still(1, 4));
        due("c", 0, x.still(2, 5));
        due("no room", NONE, x.still(3, 0));
        due("no room", NONE, x.still(-1, 0));
        due("not yet", NONE, x.still(0, 6));
        due("no minute", NONE, x.still(0, -1));
        x.minutes(294);
        due("a at the end", 1, x.still(0, 299));
        LateMirrors y = Checks.court("room a; man k 0 a; mirror g a k; late = if minute < 299 then 0 else 299;");
        y.minutes(60);
        due("to minute 299", 1, y.still(0, 59));
        due("to minute 299", 299, y.soonest(0, 59, 0));
        due("not at 298", 0, y.still(0, 58));
    }

    private static void soonest() {
        LateMirrors x = walk(5);
        due("a now", 5, x.soonest(0, 5, 0));
        due("by 0", 0, x.soonest(0, 5, 1));
        due("a at 4", 6, x.soonest(0, 4, 0));
        due("by 1", 1, x.soonest(0, 4, 1));
        due("a at 2", NOTHING, x.soonest(0, 2, 0));
        due("by none", NOTHING, x.soonest(0, 2, 1));
        due("no room", NONE, x.soonest(3, 0, 0));
        due("not yet", NONE, x.soonest(0, 6, 0));
        due("no minute", NONE, x.soonest(0, -1, 0));
        due("no what", NONE, x.soonest(0, 0, 2));
        due("no what first", NONE, x.soonest(0, 2, -1));
        x.smash(0);
        due("broken ones go on", 3, x.still(0, 5));
        LateMirrors y = Checks.court("room a; man k 1 a; man m 1 a; mirror g a m; mirror h a k;");
        due("the first of alike ones", 0, y.soonest(0, 0, 1));
        due("when it comes", 1, y.soonest(0, 0, 0));
    }

    private static void seen() {
        LateMirrors x = walk(5);
        // at 5 mirrors 0 and 1 show the king, mirror 2 shows m
        due("the king now", 2, x.seen(0, 0));
        due("m now", 1, x.seen(1, 0));
        due("the king in 3", 8, x.seen(0, 3));
        // at 6 mirrors 0 and 1 show m, 2 shows b without him; at 7 as at 5
        due("m in 1", 3, x.seen(1, 1));
        due("m in 2", 4, x.seen(1, 2));
        due("n never", 0, x.seen(2, 299));
        due("to the end", 2 * 295, x.seen(0, 299));
        due("too far", NONE, x.seen(0, 300));
        due("no such", NONE, x.seen(0, -1));
        due("no man", NONE, x.seen(3, 0));
        x.smash(0);
        x.smash(1);
        due("one minute again and again", 8, x.seen(0, 3));
    }

    private static void jolt() {
        LateMirrors x = Checks.court("room a; room b; man k 5 a; man m 5 a; mirror g a k; mirror h b k; mirror i b m;"
                + "late = if number < 1 then rank * 2 else 12 - rank;");
        due("the most", 6, x.jolt(0, 8, 0));
        due("later", 6, x.jolt(0, 8, 1));
        due("less late", 3, x.jolt(0, 8, 2));
        due("the most", 3, x.jolt(0, 2, 0));
        due("later", 3, x.jolt(0, 2, 1));
        due("less late", 6, x.jolt(0, 2, 2));
        due("below 0", -3, x.jolt(1, 8, 0));
        due("none later", 0, x.jolt(1, 8, 1));
        due("his own", 0, x.jolt(0, 5, 0));
        due("held", -7, x.jolt(1, 20, 0));
        due("no man", -1000, x.jolt(2, 0, 0));
        due("no man", -1000, x.jolt(-1, 0, 0));
        due("no rank", -1000, x.jolt(0, 21, 0));
        due("no rank", -1000, x.jolt(0, -1, 0));
        due("no what", -1000, x.jolt(0, 0, 3));
        due("no what", -1000, x.jolt(0, 0, -1));
        x.turn(0, true);
        due("turned ones too", 6, x.jolt(0, 8, 1));
        x.smash(0);
        due("without the broken", -3, x.jolt(0, 8, 0));
        x.smash(2);
        due("without any", 0, x.jolt(1, 8, 0));
        due("without any", 0, x.jolt(1, 8, 2));
    }

    private static void hidden() {
        LateMirrors x = Checks.court("room a; room b; room c; room d; room e; door a b; door b d; door a c; door c d;"
                + "door d a; man k 0 a; mirror g b k; mirror h e k;");
        due("one door", 1, x.hidden(0, 3, 0));
        due("there", 3, x.hidden(0, 3, 1));
        due("two", 2, x.hidden(2, 0, 0) + x.hidden(0, 2, 0));
        due("there already", 0, x.hidden(0, 0, 0));
        due("itself", 0, x.hidden(0, 0, 1));
        due("to one with a mirror", NOTHING, x.hidden(0, 1, 0));
        due("from one with a mirror", NOTHING, x.hidden(1, 0, 1));
        due("in one with a mirror", NOTHING, x.hidden(1, 1, 0));
        due("no way", NOTHING, x.hidden(0, 4, 0));
        x.turn(0, true);
        due("turned", 1, x.hidden(0, 1, 0));
        due("two", 2, x.hidden(1, 2, 0));
        due("by the first door", 0, x.hidden(1, 2, 1));
        x.turn(0, false);
        x.smash(0);
        due("broken", 1, x.hidden(0, 1, 0));
        x.smash(1);
        due("no door", NOTHING, x.hidden(0, 4, 0));
        due("there already", 4, x.hidden(4, 4, 1));
        due("no room", NONE, x.hidden(5, 0, 0));
        due("no room", NONE, x.hidden(0, -1, 0));
        due("no what", NONE, x.hidden(0, 1, 2));
        due("no what", NONE, x.hidden(0, 4, -1));
        LateMirrors y = Checks.court("room a; room b; room c; room d; door a c; door a b; door b d; door c d;"
                + "man k 0 a; mirror g c k;");
        due("round about", 2, y.hidden(0, 3, 0));
        due("by the second door", 1, y.hidden(0, 3, 1));
    }

    private static void stand() {
        LateMirrors x = walk(4);
        // in a: king and m; in b, mirror 2 shows b at 2: nobody
        due("in a", 0, x.stand(0));
        due("two", 2, x.stand(1));
        x.carry(0, 1);
        x.carry(1, 1);
        // mirror 0 shows b now, nobody there; mirror 1 shows a at 2
        due("in b", 1, x.stand(0));
        due("two", 2, x.stand(1));
        due("no what", NONE, x.stand(2));
        due("no what", NONE, x.stand(-1));
        due("no what, no rooms", NONE, new LateMirrors().stand(2));
        due("no rooms", NOTHING, new LateMirrors().stand(1));
        due("nobody", 0, Checks.court("room a; room b;").stand(0));
        due("nobody", 0, Checks.court("room a; room b;").stand(1));
    }

    private static void turned() {
        LateMirrors x = walk(5);
        due("the king", 2, x.turned(0, 0));
        due("those in a", 3, x.turned(0, 1));
        due("m", 3, x.turned(1, 0));
        due("all", 7, x.turned(1, 1));
        due("n", 0, x.turned(2, 0));
        due("none", 0, x.turned(2, 1));
        x.turn(0, true);
        due("without the turned", 2, x.turned(0, 1));
        x.turn(0, false);
        due("no man", NONE, x.turned(3, 0));
        due("no man", NONE, x.turned(-1, 0));
        due("no what", NONE, x.turned(0, 2));
        due("no what", NONE, x.turned(0, -1));
        due("nothing happened", 5, x.count(4));
    }

    private static void odds() {
        // the first lots of mirror 0 by seeds 7 .. 16: 98 72 5 61 36 85 27 3 32 9
        LateMirrors x = Checks.court("room a; man k 1 a; mirror g a k; mirror h a k; seed 7; breaks 30;");
        due("in none", 0, x.odds(0, 0, 10));
        due("in 1", 4, x.odds(0, 1, 10));
        due("in 1 by 7", 2, x.odds(0, 1, 7));
        due("in 4 by 2", 0, x.odds(0, 4, 2));
        due("in 5 by 2", 1, x.odds(0, 5, 2));
        due("in 6", 10, x.odds(0, 6, 10));
        due("in all", 1, x.odds(0, 299, 1));
        due("too far", NONE, x.odds(0, 300, 1));
        due("no such", NONE, x.odds(0, -1, 1));
        due("no seeds", NONE, x.odds(0, 1, 0));
        due("too many seeds", NONE, x.odds(0, 1, 11));
        due("no mirror", NONE, x.odds(2, 1, 1));
        due("no mirror", NONE, x.odds(-1, 1, 1));
        x.minutes(1);
        due("broken already", 10, x.odds(1, 0, 10));
        // from now on: by seed 7 at 6, by 8 at 5, by 9 at 9, by 10 at 2
        due("from now on", 0, x.odds(0, 0, 10));
        due("from now on", 1, x.odds(0, 4, 3));
        due("from now on", 2, x.odds(0, 5, 3));
        due("from now on", 3, x.odds(0, 8, 3));
        LateMirrors y = Checks.court("room a; man k 1 a; mirror g a k; seed 9999; breaks 52;");
        // 78 80 53 19 51 66 30 3 81 11
        due("beyond the last seed", 5, y.odds(0, 1, 10));
        due("nothing happened", 0, y.count(4));
    }

    private static void tellAndForget() {
        LateMirrors x = walk(5);
        due("the first", 0, x.tell(0, 0, 0, true));
        due("the second", 1, x.tell(2, 99, 2, false));
        due("too late", NONE, x.tell(0, 100, 0, true));
        due("too early", NONE, x.tell(0, -1, 0, true));
        due("no mirror", NONE, x.tell(3, 0, 0, true));
        due("no mirror", NONE, x.tell(-1, 0, 0, true));
        due("no man", NONE, x.tell(0, 0, 3, true));
        due("no man", NONE, x.tell(0, 0, -1, true));
        due("two", 2, x.count(9));
        due("nothing done", 1, x.count(8));
        for (int n = 2; n < 20; n++) {
            due("more", n, x.tell(0, 0, 0, true));
        }
        due("20 are there", NONE, x.tell(0, 0, 0, true));
        due("20", 20, x.count(9));
        due("forget", 20, x.forget());
        due("none", 0, x.count(9));
        due("forget", 0, x.forget());
        due("the first again", 0, x.tell(0, 0, 0, true));
    }

    private static void began() {
        // m goes round a, b, c: one room on each minute
        LateMirrors x = Checks.court("room a; room b; room c; door a b; door b c; door c a; man k 0 a; man m 2 a;"
                + "goes m = if here < 1 then 1 else 2; mirror g a k; mirror h b m;");
        due("all of them", 3, x.began(1, 0, NONE));
        due("the third", 2, x.began(1, 0, 2));
        due("not so many", NONE, x.began(1, 0, 3));
        // in a at 2 and not at 0: he began in b
        x.tell(0, 2, 1, true);
        x.tell(0, 1, 1, false);
        x.tell(0, 1, 1, true);
        due("by the first", 1, x.began(1, 1, NONE));
        due("in b", 1, x.began(1, 1, 0));
        due("by two", 1, x.began(1, 2, NONE));
        due("by three", 0, x.began(1, 3, NONE));
        due("not any", NONE, x.began(1, 3, 0));
        due("not so many are known", NONE, x.began(1, 4, NONE));
        due("less than none", NONE, x.began(1, -1, NONE));
        due("no man", NONE, x.began(2, 0, NONE));
        due("no man", NONE, x.began(-1, 0, NONE));
        due("no place", NONE, x.began(1, 0, -2));
        x.forget();
        // mirror h shows b two minutes ago: in b at 1 he began in a; nobody is shown at 1
        x.tell(1, 3, 1, true);
        x.tell(1, 1, 1, false);
        due("in a", 0, x.began(1, 2, 0));
        x.tell(1, 1, 1, true);
        due("in none", 0, x.began(1, 3, NONE));
        x.forget();
        x.tell(0, 2, 1, false);
        due("two", 2, x.began(1, 1, NONE));
        due("the first", 0, x.began(1, 1, 0));
        due("the second", 2, x.began(1, 1, 1));
        x.minutes(7);
        x.raise(1, 9);
        x.turn(0, true);
        due("of the text, nothing by hand", 2, x.began(1, 1, NONE));
        due("nothing happened", 7, x.count(4));
        due("of the king", 3, x.began(0, 1, NONE));
        x.tell(0, 99, 0, true);
        due("of the king, minute 99", 1, x.began(0, 2, NONE));
    }

    private static void holdAndRestore() {
        LateMirrors x = walk(5);
        x.raise(1, 4);
        x.tell(0, 0, 0, true);
        due("no slot", false, x.hold(3));
        due("no slot", false, x.hold(-1));
        due("nothing held", false, x.restore(1));
        due("no slot", false, x.restore(3));
        due("no slot", false, x.restore(-1));
        due("held", true, x.hold(1));
        due("one", 1, x.count(10));
        due("what was done stays", 2, x.count(8));
        x.smash(0);
        x.turn(2, true);
        x.carry(1, 2);
        x.minutes(4);
        x.feed(0, 0, 0, 0, 0);
        due("held", true, x.hold(0));
        due("another", 2, x.count(10));
        x.undo();
        x.undo();
        x.go(1, 1);
        due("restored", true, x.restore(1));
        due("the minute", 5, x.count(4));
        due("whole", 0, x.count(5));
        due("not turned", 0, x.count(6));
        due("nothing to undo", 0, x.count(8));
        due("nothing to undo", false, x.undo());
        due("what is told stays", 1, x.count(9));
        due("the tape stays", 20, x.count(7));
        due("his rank", 4, x.man(1, 5, 1));
        due("hangs", 0, x.mirror(1, 5, 0));
        due("shows", 1, x.mirror(1, 5, 4));
        x.minutes(2);
        due("goes on", 0, x.count(6));
        due("restored", true, x.restore(0));
        due("the minute", 9, x.count(4));
        due("broken", 1, x.count(5));
        due("turned", 4, x.count(6));
        due("shows as it broke", 5, x.mirror(0, 9, 4));
        due("hangs", 2, x.mirror(1, 9, 0));
        due("both stay", 2, x.count(10));
        due("held again", true, x.hold(1));
        x.minutes(1);
        due("restored", true, x.restore(1));
        due("the later one", 9, x.count(4));
        x.back(20);
        due("a new text", 0, x.read());
        due("nothing held", false, x.restore(1));
        due("none", 0, x.count(10));
    }

    private static void counts() {
        LateMirrors x = walk(5);
        x.smash(2);
        x.turn(1, true);
        x.feed(0, 0, 0, 0, 0);
        x.back(3);
        x.tell(0, 0, 0, false);
        x.hold(2);
        int[] all = {3, 2, 3, 3, 5, 4, 2, 17, 3, 1, 1};
        for (int what = 0; what <= 10; what++) {
            due("count " + what, all[what], x.count(what));
        }
        for (int what : List.of(-1, 11, -2, BIG, SMALL)) {
            due("count " + what, NONE, x.count(what));
        }
    }

    private static void wrongOnes() {
        LateMirrors x = walk(3);
        for (int wrong : new int[] {BIG, SMALL, 99, -3, 1 << 16}) {
            due("man", NONE, x.man(wrong, wrong, wrong) & x.man(0, wrong, 0) & x.man(0, 0, wrong));
            due("mirror", NONE, x.mirror(wrong, 0, 0) & x.mirror(0, wrong, 0) & x.mirror(0, 0, wrong));
            due("minutes", NONE, x.minutes(wrong == 99 ? BIG : wrong));
            due("go", false, x.go(wrong, 1) | x.go(0, wrong));
            due("raise", false, x.raise(wrong, 1) | x.raise(0, wrong));
            due("carry", false, x.carry(wrong, 1) | x.carry(0, wrong));
            due("turn", false, x.turn(wrong, true) | x.smash(wrong) | x.hold(wrong) | x.restore(wrong));
            due("look", NONE, x.look(wrong, 1, 0, 0) & x.look(0, wrong, 0, 0) & x.look(0, 1, wrong, 0));
            due("last", NONE, x.last(wrong, 0) & x.last(0, wrong) & x.visits(wrong, 0) & x.visits(0, wrong));
            due("together", NONE, x.together(wrong, 0, 0) & x.together(0, wrong, 0) & x.together(0, 1, wrong));
            due("facing", NONE, x.facing(wrong, 0, 0) & x.facing(0, wrong, 0) & x.facing(0, 1, wrong));
            due("glimpses", NONE, x.glimpses(wrong, 0, 0) & x.glimpses(0, wrong, 0) & x.glimpses(0, 1, wrong));
            due("rests", NONE, x.rests(wrong, 0, 0) & x.rests(0, wrong, 0) & x.rests(0, 1, wrong));
            due("crowd", NONE, x.crowd(wrong, 0) & x.crowd(0, wrong) & x.stand(wrong) & x.oldest(wrong));
            due("rankFor", NONE, x.rankFor(wrong, 0) & x.rankFor(0, wrong) & x.deepest(wrong, 0));
            due("view", NONE, x.view(wrong, 0, 0, 0) & x.view(0, wrong, 0, 0) & x.view(0, 0, wrong, 0));
            due("willBe", NONE, x.willBe(wrong, 0) & x.seen(wrong, 0) & x.turned(wrong, 0) & x.turned(0, wrong));
            due("still", NONE, x.still(wrong, 0) & x.still(0, wrong) & x.soonest(wrong, 0, 0));
            due("hidden", NONE, x.hidden(wrong, 0, 0) & x.hidden(0, wrong, 0) & x.hidden(0, 0, wrong));
            due("odds", NONE, x.odds(wrong, 0, 1) & x.odds(0, 0, wrong) & x.ghosts(wrong) & x.shown(wrong, true));
            due("tell", NONE, x.tell(wrong, 0, 0, true) & x.tell(0, 0, wrong, true) & x.alone(wrong, true));
            due("began", NONE, x.began(wrong, 0, 0) & x.began(0, wrong, 0) & x.began(0, 0, wrong));
            due("jolt", -1000, x.jolt(wrong, 0, 0) & x.jolt(0, wrong, 0) & x.jolt(0, 0, wrong));
        }
        due("nothing happened", 3, x.count(4));
        due("nothing done", 1, x.count(8));
    }

    public static void main(String[] args) {
        due("NONE", -1, LateMirrors.NONE);
        newObject();
        feedAndBack();
        readWhole();
        readFaultsKeepAll();
        syntax();
        tooMany();
        names();
        man();
        mirror();
        brokenMirror();
        laws();
        minutes();
        breaking();
        go();
        raise();
        carry();
        turn();
        smash();
        undo();
        look();
        last();
        visits();
        alone();
        together();
        facing();
        glimpses();
        ghosts();
        oldest();
        shown();
        deepest();
        crowd();
        rankFor();
        view();
        willBe();
        rests();
        still();
        soonest();
        seen();
        jolt();
        hidden();
        stand();
        turned();
        odds();
        tellAndForget();
        began();
        holdAndRestore();
        counts();
        wrongOnes();
        Checks.end();
    }
}
