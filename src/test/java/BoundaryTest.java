/** The edges of what the document says is kept, shown and reckoned: parts II to IV and promises 6 to 45, by hand. */
public final class BoundaryTest {
    private static final int NONE = LateMirrors.NONE;
    private static final int NOTHING = -2;

    /** The king in a, m in b till minute 298: at 299 he is in a, which mirror 0 shows when it is. */
    private static final String AT_THE_END = "room a; room b; door a b; man k 0 a; man m 0 b; mirror g a k;"
            + "goes m = if minute < 298 then 0 else 1;";

    private BoundaryTest() {
    }

    private static void due(String what, long want, long got) {
        Checks.due(what, want, got);
    }

    private static void due(String what, boolean want, boolean got) {
        Checks.due(what, want, got);
    }

    private static LateMirrors court(String text, int minutes) {
        LateMirrors x = Checks.court(text);
        due("minutes of " + text, minutes, x.minutes(minutes));
        return x;
    }

    private static void all(String what, LateMirrors x, int mirror, int minute, int... due) {
        for (int i = 0; i < due.length; i++) {
            due(what + ", mirror " + mirror + " at " + minute + " what " + (4 + i), due[i], x.mirror(mirror,
                    minute, 4 + i));
        }
    }

    // ---- II. laws

    private static int late(String law) {
        return Checks.court("room a; room b; man k 3 a; man m 4 a; mirror f b k; mirror g a m; late = " + law + ";")
                .mirror(1, 0, 1);
    }

    private static void lawEdges() {
        String least = "8192 * 8192 * 32";
        Object[][] all = {{"240", 240}, {"241", 240}, {"9999", 240}, {"0", 0}, {"0 - 1", 0}, {"0 - 9999", 0},
                {"239", 239},
            // 2^31 wraps to the least number; less 1 it is the largest
            {least, 0}, {least + " - 1", 240}, {"(" + least + ") / (0 - 1)", 0},
            {"if (" + least + ") / (0 - 1) < 0 then 5 else 6", 5}, {"if " + least + " < 0 then 5 else 6", 5},
            {"if " + least + " - 1 < 0 then 5 else 6", 6}, {"0 - " + least + " - 1", 240},
            {"8192 * 8192 * 64 + 7", 7}, {"65 + 8192 * 8192 * 64", 65},
            // rounded towards 0
            {"7 / 2", 3}, {"(0 - 7) / 2 + 9", 6}, {"7 / (0 - 2) + 9", 6}, {"(0 - 7) / (0 - 2)", 3}, {"1 / 2", 0},
            {"(0 - 1) / 2 + 5", 5}, {"7 / 8 * 8", 0},
            {"7 / 1", 7}, {"9 + 7 / (0 - 1)", 2}, {"7 / 7", 1}, {"0 / 7", 0},
            // divided by 0, looked at and not
            {"1 / 0", 0}, {"0 / 0 + 5", 0}, {"5 + 0 * (1 / 0)", 0}, {"7 - 7 / (3 - 3)", 0},
            {"if 1 / 0 < 5 then 5 else 6", 0}, {"if 5 < 1 / 0 then 5 else 6", 0}, {"if 1 < 2 then 1 / 0 else 6", 0},
            {"if 2 < 1 then 1 / 0 else 6", 6}, {"if 1 < 2 then 5 else 1 / 0", 5}, {"if 2 < 1 then 5 else 1 / 0", 0},
            {"if 1 < 2 then 5 else if 1 / 0 < 1 then 6 else 7", 5},
            {"if 2 < 1 then 5 else if 1 / 0 < 1 then 6 else 7", 0},
            {"if 2 < 1 then 1 / 0 else if 1 < 2 then 6 else 7 / 0", 6},
            // one less than the other
            {"if 2 < 2 then 5 else 6", 6}, {"if 1 < 2 then 5 else 6", 5}, {"if 3 < 2 then 5 else 6", 6},
            {"if 0 - 1 < 0 then 5 else 6", 5}, {"if 0 < 0 - 1 then 5 else 6", 6},
            // the first if that holds, else the last E
            {"if 1 < 2 then 1 else if 1 < 2 then 2 else if 1 < 2 then 3 else if 1 < 2 then 4 else 5", 1},
            {"if 2 < 1 then 1 else if 1 < 2 then 2 else if 1 < 2 then 3 else if 1 < 2 then 4 else 5", 2},
            {"if 2 < 1 then 1 else if 2 < 1 then 2 else if 1 < 2 then 3 else if 1 < 2 then 4 else 5", 3},
            {"if 2 < 1 then 1 else if 2 < 1 then 2 else if 2 < 1 then 3 else if 1 < 2 then 4 else 5", 4},
            {"if 2 < 1 then 1 else if 2 < 1 then 2 else if 2 < 1 then 3 else if 2 < 1 then 4 else 5", 5},
            // from left to right, * and / ahead of + and -
            {"9 - 3 - 2", 4}, {"9 - (3 - 2)", 8}, {"9 - 3 + 2", 8}, {"72 / 6 / 2", 6}, {"72 / (6 / 2)", 24},
            {"72 / 6 * 2", 24}, {"7 * 5 / 2", 17}, {"1 + 2 * 3 - 4 / 2", 5}, {"(1 + 2) * (3 - 4 / 2)", 3},
            {"((((((9 - 3) - 2) * 2) + 1) * 2) - 1)", 17}, {"1 + (2 + (3 + (4 + (5 + (6 + (7))))))", 28},
            {"1 - (2 - (3 - (4 - (5 - (6 - 9)))))", 6}, {"20 - (2 - (3 - (4 - (5 - (6 - 9)))))", 25}};
        for (Object[] one : all) {
            due("II late = " + one[0], (int) one[1], late((String) one[0]));
        }
        // as long as 400 tokens leave it: 13 ahead of it, 386 of its own
        String ahead = "room a;man m 0 a;mirror g a m;late=1";
        due("II a LAW of 192 ones", 192, Checks.court(ahead + "+1".repeat(191) + ";").mirror(0, 0, 1));
        due("II a LAW of 192 ones", 1, Checks.court(ahead + "*1".repeat(191) + ";").mirror(0, 0, 1));
        due("II a LAW of 192 ones", 0, Checks.court(ahead + "-1".repeat(191) + ";").mirror(0, 0, 1));
        Checks.fault(ahead + "+1".repeat(192) + ";", 2, ahead.length() + 2 * 192);
    }

    private static void laws() {
        // in b nobody is and no door leads out; in a two are
        due("II LATE's with of an empty ROOM", 0, Checks.court("room a; room b; man m 9 a; mirror g b m; late = with;")
                .mirror(0, 0, 1));
        due("II LATE's with counts all", 2, late("with"));
        due("II LATE's ways of a ROOM without DOORS", 0, late("ways"));
        due("II LATE's rank is its owner's", 4, late("rank"));
        due("II LATE's number is the MIRROR's", 1, late("number"));
        due("II LATE's here", 0, late("here"));
        LateMirrors x = court("room a; room b; man m 2 a; man n 3 a; mirror g a m; late = minute;", 240);
        due("II LATE's minute", 240, x.mirror(0, 240, 1));
        due("II LATE's minute, then", 239, x.mirror(0, 239, 1));
        x.minutes(1);
        due("II held to 240", 240, x.mirror(0, 241, 1));
        due("II so it shows 1", 1, x.mirror(0, 241, 4));
        // with: alone 0, with one other 1; a room without doors has rest by 1
        LateMirrors y = court("room a; room b; room c; door a b; door a b; man k 0 a; man m 0 b; man n 0 c;"
                + "goes k = with + 1; goes m = with + 1; goes n = 9999;", 1);
        due("II GOES' with without others", 1, y.man(0, 1, 0));
        due("II all at once", 0, y.man(1, 1, 0));
        due("II no DOORS", 2, y.man(2, 1, 0));
        LateMirrors z = court("room a; room b; room c; door a b; door a c; man k 0 a; man m 0 a; goes k = with;", 1);
        due("II GOES' with one other", 1, z.man(0, 1, 0));
        due("II who is told nothing stays", 0, z.man(1, 1, 0));
    }

    // ---- II. ways and minutes

    private static final String STAR = "room a;room b;room c;room d;room e;room f;room g;room h;door a b;door c a;"
            + "door a d;door e a;door a f;door g a;door a h;door a b;door a c;door d a;door a e;door a f;man k 0 a;";
    private static final int[] WAYS = {1, 2, 3, 4, 5, 6, 7, 1, 2, 3, 4, 5};

    private static void ways() {
        for (int k = -1; k <= 14; k++) {
            LateMirrors x = Checks.court(STAR);
            boolean is = k >= 1 && k <= 12;
            due("P9 the door " + k + " of 12", is, x.go(0, k));
            due("P9 behind it", is ? WAYS[k - 1] : 0, x.man(0, 0, 0));
            due("P9 done", is ? 1 : 0, x.count(8));
            if (is) {
                boolean twice = WAYS[k - 1] < 6;
                due("P9 a DOOR told twice is two", twice, x.go(0, 2));
                due("P9 back through it", true, twice || x.go(0, 1));
                due("P9 in a again", 0, x.man(0, 0, 0));
            }
        }
        int[][] values = {{0, 0}, {1, 1}, {12, 5}, {13, 0}, {14, 1}, {25, 5}, {26, 0}, {27, 1}};
        for (int[] value : values) {
            LateMirrors x = court(STAR + "goes k = if minute < 1 then " + value[0] + " else 0;", 1);
            due("II the rest by WAYS + 1 of " + value[0], value[1], x.man(0, 1, 0));
        }
        for (String below : new String[] {"0 - 1", "0 - 12", "0 - 13", "0 - 14", "8192 * 8192 * 32", "0 - 9999 * "
                + "9999"}) {
            due("II below 0: " + below, 0, court(STAR + "goes k = " + below + ";", 1).man(0, 1, 0));
        }
        // the largest number is 2147483647: by 13 its rest is 10
        due("II the largest", 3, court(STAR + "goes k = 8192 * 8192 * 32 - 1;", 1).man(0, 1, 0));
    }

    private static void minutes() {
        String text = "room a; room b; room c; door a b; door b c; door c a; man k 3 a; man m 4 b; man n 5 c;"
                + "goes k = minute + with; goes m = 1; goes n = minute / 3; mirror g a k; mirror h b m;"
                + "late = if minute < 200 then rank else rank + with * 3; breaks 1; seed 750;";
        LateMirrors one = Checks.court(text);
        LateMirrors all = court(text, 299);
        for (int t = 1; t <= 299; t++) {
            due("P8 one by one", t, one.minutes(1));
        }
        due("P8 none more", NONE, one.minutes(1));
        due("P8 none go by", 299, one.minutes(0));
        for (int t = 0; t <= 299; t += 23) {
            for (int i = 0; i < 3; i++) {
                due("P8 all at once or one by one", all.man(i, t, 0), one.man(i, t, 0));
            }
            for (int what = 0; what <= 6; what++) {
                due("P8 all at once or one by one", all.mirror(0, t, what), one.mirror(0, t, what));
            }
        }
        // the first lot of mirror 0 by seed 750 that is below 1 is at minute 299
        due("II whole at 298", 0, all.mirror(0, 298, 3));
        due("II broken at 299", 1, all.mirror(0, 299, 3));
        LateMirrors x = court(AT_THE_END, 299);
        due("P8 the last minute", 0, x.man(1, 299, 0));
        due("P8 the one ahead", 1, x.man(1, 298, 0));
        due("P6 none behind it", NONE, x.man(1, 300, 0));
        due("P9 by hand at the last minute", true, x.go(1, 1));
        due("P6 there at the last minute", 1, x.man(1, 299, 0));
        due("P14 undone at the last minute", true, x.undo());
        due("P14 minutes undone at the last minute", true, x.undo());
        due("P8 and gone through again", 298, x.minutes(298));
        due("P8 and to the end", 299, x.minutes(1));
    }

    private static void lots() {
        // by seed 0 the first lots below 10: mirror 2 at 2, 3 at 3, 4 at 9, 6 at 2, 7 at 8, of the others none by 12
        StringBuilder text = new StringBuilder("room a;man k 0 a;breaks 10;seed 0;");
        for (char name = 'a'; name <= 'h'; name++) {
            text.append("mirror g").append(name).append(" a k;");
        }
        int[] broken = {0, 0, 68, 76, 76, 76, 76, 76, 204, 220, 220, 220, 220};
        LateMirrors x = Checks.court(text.toString());
        for (int t = 0; t <= 12; t++) {
            due("II broken at " + t, broken[t], x.count(5));
            due("II of minutes", t, x.count(4));
            x.minutes(1);
        }
        // of seed 5 mirror 0 has the lot 0 at minute 5, and 6 at 11
        int[][] all = {{0, 300}, {1, 5}, {6, 5}, {25, 5}, {26, 5}, {39, 5}, {40, 3}, {45, 3}, {46, 2}, {90, 2},
                {91, 1}};
        for (int[] one : all) {
            LateMirrors y = court("room a;man k 0 a;mirror g a k;seed 5;breaks " + one[0] + ";", 11);
            for (int t = 0; t <= 11; t++) {
                due("II BREAKS " + one[0] + " at " + t, t >= one[1] ? 1 : 0, y.mirror(0, t, 3));
            }
        }
        LateMirrors z = court("room a;man k 0 a;mirror g a k;seed 5;breaks 100;", 0);
        due("II not at minute 0", 0, z.count(5));
        z.minutes(1);
        due("II but at minute 1", 1, z.count(5));
    }

    // ---- II. what is kept and shown

    private static void kept() {
        LateMirrors x = Checks.court("room a; room b; door a b; man k 1 a; man m 2 b; mirror g b k; mirror h a m;");
        x.go(0, 1);
        x.raise(0, 4);
        x.raise(0, 3);
        x.carry(0, 0);
        x.turn(0, true);
        due("P6 by hand at minute 0", 1, x.man(0, 0, 0));
        x.minutes(2);
        int[] due = {0, 3, 1, 0};
        for (int what = 0; what < 4; what++) {
            due("P7 as it is when the next one comes " + what, due[what], x.mirror(0, 0, what));
        }
        due("P6 his room as the next one comes", 1, x.man(0, 0, 0));
        due("P6 his rank as the next one comes", 3, x.man(0, 0, 1));
        x.go(0, 1);
        x.raise(0, 0);
        x.carry(0, 1);
        x.turn(0, false);
        x.smash(1);
        int[] now = {1, 0, 0, 0};
        for (int what = 0; what < 4; what++) {
            due("P7 now " + what, now[what], x.mirror(0, 2, what));
            due("P7 the minute ahead " + what, due[what], x.mirror(0, 1, what));
        }
        due("P7 broken now", 1, x.mirror(1, 2, 3));
        due("P7 not by the minute ahead", 0, x.mirror(1, 1, 3));
        due("P6 his room now", 0, x.man(0, 2, 0));
        due("P6 his room the minute ahead", 1, x.man(0, 1, 0));
        due("P6 his rank now", 0, x.man(0, 2, 1));
        due("P6 his rank the minute ahead", 3, x.man(0, 1, 1));
        due("P6 the other's room", 1, x.man(1, 0, 0));
        x.minutes(1);
        due("P6 it goes on", 0, x.man(0, 3, 1));
        due("P7 it goes on", 1, x.mirror(0, 3, 0));
        due("P7 broken goes on", 1, x.mirror(1, 3, 3));
        LateMirrors y = court("room a; man k 1 a; mirror g a k;", 3);
        y.turn(0, true);
        y.turn(0, false);
        y.minutes(1);
        all("II turned and back in one minute is not turned", y, 0, 4, 3, 0, 1);
    }

    private static void shows() {
        LateMirrors x = court("room a; room b; door a b; man k 1 b; man m 0 a; mirror g b k;", 1);
        all("II below 0", x, 0, 0, NOTHING, NOTHING, 0);
        all("II minute 0", x, 0, 1, 0, 1, 1);
        x.go(0, 1);
        x.minutes(1);
        all("II nobody was there", x, 0, 2, 1, 1, 0);
        x.turn(0, true);
        all("II turned now", x, 0, 2, NOTHING, NOTHING, 0);
        x.minutes(1);
        all("II turned now and then", x, 0, 3, NOTHING, NOTHING, 0);
        x.turn(0, false);
        all("II turned then", x, 0, 3, NOTHING, NOTHING, 0);
        x.minutes(1);
        all("II no more", x, 0, 4, 3, 1, 0);
        all("II what was", x, 0, 1, 0, 1, 1);
        x.carry(0, 0);
        all("II the ROOM in which it hung", x, 0, 4, 3, 1, 0);
        x.minutes(1);
        all("II the ROOM to which it was carried", x, 0, 5, 4, 0, 3);
        LateMirrors y = court("room a; man k 9 a; mirror g a k; late = 241;", 241);
        all("II held to 240", y, 0, 239, NOTHING, NOTHING, 0);
        all("II held to 240", y, 0, 240, 0, 0, 1);
        all("II held to 240", y, 0, 241, 1, 0, 1);
        LateMirrors z = court("room a; man k 0 a; mirror g a k;", 299);
        all("II not late at all", z, 0, 299, 299, 0, 1);
    }

    private static void broken() {
        String text = "room a; room b; man k 1 a; mirror g a k;";
        LateMirrors x = Checks.court(text);
        x.smash(0);
        x.minutes(3);
        all("II SHOWED nothing as it broke", x, 0, 3, NOTHING, NOTHING, 0);
        due("P7 broken by then", 1, x.mirror(0, 0, 3));
        LateMirrors y = court(text, 1);
        y.smash(0);
        y.minutes(5);
        all("II minute 0 for ever", y, 0, 6, 0, 0, 1);
        all("II as it broke", y, 0, 1, 0, 0, 1);
        all("II ahead of that", y, 0, 0, NOTHING, NOTHING, 0);
        y.carry(0, 1);
        y.raise(0, 9);
        all("II carried, its owner raised", y, 0, 6, 0, 0, 1);
        due("P7 how LATE it was", 9, y.mirror(0, 6, 1));
        due("P7 how LATE it was", 1, y.mirror(0, 5, 1));
        y.minutes(1);
        y.turn(0, true);
        all("II broken and turned", y, 0, 7, NOTHING, NOTHING, 0);
        all("II not turned then", y, 0, 6, 0, 0, 1);
        LateMirrors z = court(text, 4);
        z.turn(0, true);
        z.smash(0);
        z.turn(0, false);
        z.minutes(4);
        all("II turned as it broke", z, 0, 8, NOTHING, NOTHING, 0);
        LateMirrors w = court(text, 4);
        w.turn(0, true);
        w.minutes(1);
        w.turn(0, false);
        w.smash(0);
        w.minutes(1);
        all("II turned at the minute that it would SHOW as it broke", w, 0, 6, NOTHING, NOTHING, 0);
        LateMirrors v = court(text, 4);
        v.smash(0);
        v.turn(0, true);
        v.minutes(1);
        v.turn(0, false);
        all("II turned behind that", v, 0, 5, 3, 0, 1);
        all("II turned behind that, then", v, 0, 4, NOTHING, NOTHING, 0);
        LateMirrors u = court("room a; man k 0 a; mirror g a k; breaks 100;", 1);
        u.turn(0, true);
        u.minutes(1);
        u.turn(0, false);
        all("II turned at the minute that it SHOWS, in which it broke", u, 0, 2, NOTHING, NOTHING, 0);
    }

    // ---- promises 14, 43, 44: what can be undone and held

    private static final String AWAY = "room a; room b; room c; door a b; door b c; door c a; man k 5 b; man m 6 c;"
            + "goes k = 2; mirror g b k; mirror h c m;";

    private static void due(String what, LateMirrors x, int... due) {
        int t = x.count(4);
        int[] got = {t, x.man(0, t, 0), x.man(1, t, 0), x.man(0, t, 1), x.man(1, t, 1), x.mirror(0, t, 0),
                x.mirror(1, t, 0),
            x.mirror(0, t, 1), x.mirror(1, t, 1), x.count(5), x.count(6), x.count(8)};
        for (int i = 0; i < got.length; i++) {
            due(what + " " + i, due[i], got[i]);
        }
    }

    private static void undoEach() {
        for (int t : new int[] {0, 3}) {
            // k goes b c b c: by the second door of b to c, by the second of c to a, by the second of a to c, c a
            int k = t == 0 ? 1 : 2;
            int done = t == 0 ? 0 : 1;
            LateMirrors x = court(AWAY, t);
            due("P14 ahead", x, t, k, 2, 5, 6, 1, 2, 5, 6, 0, 0, done);
            x.go(1, 1);
            due("P14 gone", x, t, k, 1, 5, 6, 1, 2, 5, 6, 0, 0, done + 1);
            due("P14 undo of go", true, x.undo());
            due("P14 undo of go", x, t, k, 2, 5, 6, 1, 2, 5, 6, 0, 0, done);
            x.raise(1, 0);
            due("P14 undo of raise", true, x.undo());
            due("P14 undo of raise", x, t, k, 2, 5, 6, 1, 2, 5, 6, 0, 0, done);
            x.carry(0, 0);
            due("P14 undo of carry", true, x.undo());
            due("P14 undo of carry", x, t, k, 2, 5, 6, 1, 2, 5, 6, 0, 0, done);
            x.turn(1, true);
            due("P14 undo of turn", true, x.undo());
            due("P14 undo of turn", x, t, k, 2, 5, 6, 1, 2, 5, 6, 0, 0, done);
            x.turn(0, true);
            x.turn(0, false);
            due("P14 undo of turning back", true, x.undo());
            due("P14 undo of turning back", x, t, k, 2, 5, 6, 1, 2, 5, 6, 0, 1, done + 1);
            x.undo();
            x.smash(0);
            x.smash(1);
            due("P14 undo of smash", true, x.undo());
            due("P14 undo of smash", x, t, k, 2, 5, 6, 1, 2, 5, 6, 1, 0, done + 1);
            x.undo();
            x.minutes(4);
            due("P14 undo of minutes", true, x.undo());
            due("P14 undo of minutes", x, t, k, 2, 5, 6, 1, 2, 5, 6, 0, 0, done);
            due("P6 no minute that is undone", NONE, x.man(0, t + 1, 0));
            x.minutes(1);
            x.undo();
            due("P14 nothing is done again by undo", x, t, k, 2, 5, 6, 1, 2, 5, 6, 0, 0, done);
            due("P14 what was done first", done == 1, x.undo());
            due("P14 all is undone", false, x.undo());
            due("P14 as told", x, 0, 1, 2, 5, 6, 1, 2, 5, 6, 0, 0, 0);
        }
    }

    private static void undoTwenty() {
        for (int things = 19; things <= 22; things++) {
            LateMirrors x = Checks.court(AWAY);
            for (int n = 0; n < things; n++) {
                due("P14 done", true, x.raise(0, n % 2 == 0 ? n / 2 + 6 : 4));
                due("P14 20 at most", Math.min(n + 1, 20), x.count(8));
            }
            for (int n = things - 1; n >= things - 20 && n >= 0; n--) {
                due("P14 undo", true, x.undo());
                due("P14 the rank ahead", n == 0 ? 5 : n % 2 == 1 ? (n - 1) / 2 + 6 : 4, x.man(0, 0, 1));
                due("P14 left", Math.max(0, Math.min(n, n + 20 - things)), x.count(8));
            }
            int rank = x.man(0, 0, 1);
            due("P14 the last 20 alone", false, x.undo());
            due("P14 nothing changes", rank, x.man(0, 0, 1));
            due("P14 done again", true, x.raise(0, 20));
            due("P14 and undone again", true, x.undo());
            due("P14 and no more", false, x.undo());
        }
        LateMirrors y = Checks.court(AWAY);
        for (int n = 0; n < 20; n++) {
            y.raise(0, n % 2);
        }
        y.minutes(0);
        y.raise(0, 21);
        y.raise(0, 1);
        y.go(0, 9);
        y.carry(0, 1);
        y.turn(0, false);
        y.smash(7);
        y.hold(0);
        y.tell(0, 0, 0, true);
        y.minutes(300);
        due("P14 what is no thing done takes no place", 20, y.count(8));
        due("P14 the last", true, y.undo());
        due("P14 its rank", 0, y.man(0, 0, 1));
        LateMirrors z = court("room a; man k 1 a; mirror g a k; mirror h a k; breaks 30; seed 7;", 6);
        due("P14 broken by then", 3, z.count(5));
        z.undo();
        due("P14 whole again", 0, z.count(5));
        z.minutes(5);
        due("P14 by the same lots", 2, z.count(5));
        z.smash(0);
        z.undo();
        z.minutes(1);
        due("P14 by the same lots", 3, z.count(5));
        all("P14 as it broke", z, 0, 6, 5, 0, 1);
    }

    private static void holdAndRestore() {
        LateMirrors x = new LateMirrors();
        for (int slot = 0; slot < 3; slot++) {
            due("P44 nothing is held", false, x.restore(slot));
            due("P43 a new object is held", true, x.hold(slot));
            due("P45 SLOTS that hold something", slot + 1, x.count(10));
            due("P44 gone on from", true, x.restore(slot));
        }
        due("P43 held again", true, x.hold(1));
        due("P45 no SLOT more", 3, x.count(10));
        LateMirrors y = court(AWAY, 3);
        y.raise(0, 9);
        y.hold(2);
        due("P45 things that can be undone stay", 2, y.count(8));
        due("P14 undo behind hold", true, y.undo());
        y.minutes(200);
        y.raise(0, 3);
        y.turn(0, true);
        y.smash(1);
        y.carry(1, 0);
        y.hold(0);
        y.tell(0, 0, 0, true);
        y.feed(0, 0, 0, 0, 0);
        for (int n = 0; n < 2; n++) {
            due("P44 the earlier", true, y.restore(2));
            due("P44 the earlier", y, 3, 2, 2, 9, 6, 1, 2, 9, 6, 0, 0, 0);
            due("P44 what was", 5, y.man(0, 2, 1));
            due("P44 what was", 2, y.man(0, 1, 0));
            due("P44 nothing can be undone", false, y.undo());
            due("P44 not what is TOLD", n + 1, y.count(9));
            due("P44 nor the tape", 20 * (n + 1), y.count(7));
            y.minutes(5);
            y.tell(0, 0, 0, true);
            y.feed(0, 0, 0, 0, 0);
            due("P44 the later", true, y.restore(0));
            due("P44 the later", y, 203, 2, 2, 3, 6, 1, 0, 3, 6, 2, 1, 0);
            due("P44 what was ahead of it", 5, y.man(0, 202, 1));
            due("P44 it stays there", 2, y.count(10));
            due("P44 another holds nothing", false, y.restore(1));
            y.turn(0, false);
            due("P44 what is done behind it can be undone", true, y.undo());
            due("P44 not what was ahead", false, y.undo());
        }
        y.minutes(96);
        y.hold(0);
        y.restore(2);
        y.restore(0);
        due("P43 in place of what it held", 299, y.count(4));
        due("P44 of the minute ahead", 1, y.mirror(0, 298, 2));
        y.back(y.count(7));
        y.read();
        due("P44 a new text", false, y.restore(0) || y.restore(1) || y.restore(2));
    }

    // ---- promise 15, 21, 26: mirrors in mirrors

    private static void look() {
        LateMirrors x = court("room a; room b; man k 0 a; man m 1 a; man n 2 a; mirror f a k; mirror g a m; "
                + "mirror h a n;", 1);
        due("P15 minute 0", 0, x.look(0, 1, NONE, 0));
        due("P15 its ROOM", 0, x.look(0, 1, NONE, 1));
        due("P15 its MEN", 7, x.look(0, 1, NONE, 2));
        due("P15 the other SHOWS nothing", NOTHING, x.look(0, 2, NONE, 0));
        due("P15 the one SHOWS nothing", NOTHING, x.look(2, 0, NONE, 0));
        due("P15 in one that SHOWS minute 0", 0, x.look(1, 0, NONE, 0));
        due("P15 the third SHOWED nothing then", NOTHING, x.look(1, 0, 1, 0));
        x.minutes(2);
        due("P15 three", 0, x.look(0, 1, 2, 0));
        due("P15 three", 0, x.look(0, 1, 2, 1));
        due("P15 three", 7, x.look(0, 1, 2, 2));
        due("P15 the first again", 2, x.look(0, 1, 0, 0));
        due("P15 one in itself", NOTHING, x.look(0, 0, NONE, 0));
        due("P15 one in itself", NOTHING, x.look(0, 0, 1, 0));
        due("P15 one in itself", NOTHING, x.look(0, 1, 1, 0));
        due("P15 thrice itself", NOTHING, x.look(1, 1, 1, 2));
        x.smash(1);
        x.minutes(2);
        due("P15 broken now", 2, x.look(0, 1, NONE, 0));
        due("P15 broken by then", 2, x.look(2, 1, NONE, 0));
        x.raise(2, 3);
        due("P15 not broken by then", 1, x.look(2, 1, NONE, 0));
        x.turn(1, true);
        due("P15 turned now", NOTHING, x.look(0, 1, NONE, 0));
        due("P15 not turned then", 1, x.look(2, 1, NONE, 0));
        x.turn(1, false);
        x.turn(0, true);
        due("P15 the first is turned", NOTHING, x.look(0, 1, NONE, 0));
        LateMirrors y = court("room a; room b; man k 2 a; mirror g a k; mirror h b k;", 4);
        due("P15 it did not hang there", NOTHING, y.look(0, 1, NONE, 0));
        y.carry(1, 0);
        due("P15 hangs there now alone", NOTHING, y.look(0, 1, NONE, 0));
        y.minutes(2);
        due("P15 hung there at the minute that is SHOWN", 2, y.look(0, 1, NONE, 0));
        due("P15 it SHOWS its ROOM of that minute", 1, y.look(0, 1, NONE, 1));
        due("P15 nobody in it", 0, y.look(0, 1, NONE, 2));
        due("P15 not the other way: there it hung alone", NOTHING, y.look(0, 1, 0, 0));
    }

    private static void facing() {
        LateMirrors x = court("room a; room b; man k 0 a; man m 1 a; mirror f a k; mirror g a m; mirror h b k;", 0);
        due("P21 till nothing is", 1, x.facing(0, 1, NONE));
        due("P21 nothing at all", 0, x.facing(1, 0, NONE));
        due("P21 not even the first", NONE, x.facing(1, 0, 0));
        due("P21 the first", 0, x.facing(0, 1, 0));
        due("P21 no second", NONE, x.facing(0, 1, 1));
        due("P21 elsewhere", 1, x.facing(0, 2, NONE));
        x.minutes(9);
        due("P21 at minute 9", 19, x.facing(0, 1, NONE));
        due("P21 the 18th", 0, x.facing(0, 1, 18));
        due("P21 not the 19th", NONE, x.facing(0, 1, 19));
        x.minutes(1);
        due("P21 20 at most", 20, x.facing(0, 1, NONE));
        for (int i = 0; i < 20; i++) {
            due("P21 by the " + i, 10 - (i + 1) / 2, x.facing(0, 1, i));
            due("P21 the other first, by the " + i, i == 19 ? 0 : 9 - i / 2, x.facing(1, 0, i));
        }
        due("P21 none behind", NONE, x.facing(0, 1, 20));
        x.minutes(289);
        due("P21 20 at most", 20, x.facing(0, 1, NONE));
        due("P21 the last", 289, x.facing(0, 1, 19));
    }

    private static void deepest() {
        LateMirrors x = court("room a; room b; man k 0 a; man m 1 a; mirror f a k; mirror g a m; mirror h a m; "
                + "mirror i b k;", 0);
        due("P26 minute 0", 0, x.deepest(0, 0));
        due("P26 by itself", 1, x.deepest(0, 1));
        due("P26 it SHOWS nothing", NOTHING, x.deepest(1, 0));
        due("P26 it SHOWS nothing", NOTHING, x.deepest(1, 1));
        x.minutes(1);
        due("P26 one seen in it", 0, x.deepest(0, 0));
        due("P26 by two", 2, x.deepest(0, 1));
        due("P26 the fewest", 0, x.deepest(1, 0));
        due("P26 the fewest", 1, x.deepest(1, 1));
        x.minutes(9);
        due("P26 4 at most, any again", 6, x.deepest(1, 0));
        due("P26 4 at most, any again", 4, x.deepest(1, 1));
        due("P26 4 at most, any again", 7, x.deepest(0, 0));
        due("P26 4 at most, any again", 4, x.deepest(0, 1));
        due("P26 alone in its ROOM, not in itself", 10, x.deepest(3, 0));
        due("P26 alone in its ROOM, not in itself", 1, x.deepest(3, 1));
        x.turn(2, true);
        due("P26 the other one is turned now", 6, x.deepest(1, 0));
        x.turn(1, true);
        due("P26 itself is turned", NOTHING, x.deepest(1, 0));
        // of eight in one room the last is the latest
        LateMirrors y = court("room a; man k 0 a; mirror ga a k; mirror gb a k; mirror gc a k; mirror gd a k;"
                + "mirror ge a k; mirror gf a k; mirror gg a k; mirror gh a k; late = number / 7 * 5;", 9);
        due("P26 the last of eight", 4, y.deepest(0, 0));
        due("P26 the last of eight", 2, y.deepest(0, 1));
        y.minutes(1);
        due("P26 the last, another, the last", 0, y.deepest(0, 0));
        due("P26 the last, another, the last", 4, y.deepest(0, 1));
        due("P26 from the last", 0, y.deepest(7, 0));
        due("P26 from the last", 3, y.deepest(7, 1));
    }

    // ---- promises 16 to 20, 27: what was

    private static void whereOneWas() {
        LateMirrors x = court("room a; room b; room c; door a b; man m 0 b; man n 0 b; "
                + "goes m = if minute < 1 then 1 else 0;", 0);
        due("P16 now, too", 0, x.last(0, 1));
        due("P16 never", NOTHING, x.last(0, 0));
        due("P17 now, too", 1, x.visits(0, 1));
        due("P17 never", 0, x.visits(0, 0));
        due("P17 no MOVES in the beginning", 0, x.visits(0, NONE));
        x.minutes(299);
        due("P16 minute 0", 0, x.last(0, 1));
        due("P16 minute 299", 299, x.last(0, 0));
        due("P16 never", NOTHING, x.last(0, 2));
        due("P17 once", 1, x.visits(0, 1));
        due("P17 at all others", 299, x.visits(0, 0));
        due("P17 never", 0, x.visits(0, 2));
        due("P17 one MOVE", 1, x.visits(0, NONE));
        due("P17 no MOVES", 0, x.visits(1, NONE));
        due("P17 always", 300, x.visits(1, 1));
        due("P20 once", 1, x.together(0, 1, 0));
        due("P20 the last at minute 0", 0, x.together(0, 1, 1));
        x.go(0, 1);
        due("P20 now, too", 2, x.together(1, 0, 0));
        due("P20 now, too", 299, x.together(1, 0, 1));
        due("P17 MOVES by hand", 2, x.visits(0, NONE));
        due("P16 by hand now", 299, x.last(0, 1));
        due("P16 by hand not now", 298, x.last(0, 0));
        x.go(0, 1);
        due("P17 there and back in one minute", 1, x.visits(0, NONE));
        due("P20 no more", 1, x.together(0, 1, 0));
    }

    private static void alone() {
        // m goes to b at 3 and back at 7: the king is alone at 3, 4, 5, 6
        LateMirrors x = court("room a; room b; door a b; man k 0 a; man m 0 a; man n 0 b;"
                + "goes m = if minute < 2 then 0 else if minute < 3 then 1 else if minute < 6 then 0 else if minute "
                + "< 7 then 1 else 0;", 0);
        due("P18 never", 0, x.alone(0, false));
        due("P18 no row", 0, x.alone(0, true));
        due("P18 now, too", 1, x.alone(2, false));
        due("P18 a row of now", 1, x.alone(2, true));
        due("P19 most", 2, x.lonely());
        int[] times = {0, 0, 0, 1, 2, 3, 4, 4, 4};
        for (int t = 1; t <= 8; t++) {
            x.minutes(1);
            due("P18 the king at " + t, times[t], x.alone(0, false));
            due("P18 in a row at " + t, times[t], x.alone(0, true));
        }
        due("P18 n at the others", 5, x.alone(2, false));
        due("P18 n's longest row is the first", 3, x.alone(2, true));
        x.minutes(2);
        due("P18 n's longest row is the last", 4, x.alone(2, true));
        due("P18 never alone", 0, x.alone(1, false));
        due("P18 never alone", 0, x.alone(1, true));
        LateMirrors y = court("room a; man k 0 a;", 299);
        due("P18 at all minutes", 300, y.alone(0, false));
        due("P18 in one row", 300, y.alone(0, true));
        due("P19 the only one", 0, y.lonely());
        // q is alone at 5 and 6, p and his guest at 1, 3 and 5
        LateMirrors z = court("room a; room b; room c; room d; door a b; door c d; man q 0 c; man p 0 a; man v 0 a; "
                + "man w 0 c;goes v = 1; goes w = if minute < 4 then 0 else if minute < 5 then 1 else 0;", 6);
        due("P18 q", 2, z.alone(0, false));
        due("P18 q in a row", 2, z.alone(0, true));
        due("P18 p", 3, z.alone(1, false));
        due("P18 p in a row", 1, z.alone(1, true));
        due("P18 two in one ROOM of another two", 3, z.alone(2, false));
        due("P19 at most minutes, not in a row; the first of alike ones", 1, z.lonely());
        due("P19 nobody is ever alone", 0, Checks.court("room a; man k 0 a; man m 0 a;").lonely());
        due("P19 the last", 2, Checks.court("room a; room b; man k 0 a; man m 0 a; man n 0 b;").lonely());
        due("P19 no MEN", NOTHING, Checks.court("room a; room b; door a b;").lonely());
    }

    private static void crowd() {
        LateMirrors x = court("room a; room b; room c; door a b; door b c; man k 0 a; man m 0 c; man n 0 c; "
                + "goes k = 1;", 1);
        due("P27 the last ROOM", 2, x.crowd(0, 0));
        due("P27 two", 2, x.crowd(0, 1));
        x.go(1, 1);
        due("P27 now", 1, x.crowd(1, 0));
        due("P27 now", 2, x.crowd(1, 1));
        due("P27 then", 2, x.crowd(0, 0));
        x.go(0, 1);
        due("P27 of alike ones the first", 0, x.crowd(1, 0));
        due("P27 one in each", 1, x.crowd(1, 1));
        due("P27 without MEN the first", 0, Checks.court("room a; room b;").crowd(0, 0));
        due("P27 without MEN none", 0, Checks.court("room a; room b;").crowd(0, 1));
        due("P27 no ROOMS", NOTHING, Checks.court("").crowd(0, 0));
        due("P27 no ROOMS", NOTHING, Checks.court("").crowd(0, 1));
        due("P27 no ROOMS, a minute gone", NOTHING, court("", 9).crowd(9, 1));
    }

    // ---- promises 22 to 25: what is and was shown

    private static void glimpses() {
        LateMirrors x = court("room a; room b; door a b; man k 0 a; man m 0 b; mirror g b k; mirror h b k;", 0);
        due("P22 not in that ROOM", 0, x.glimpses(0, 1, 0));
        due("P22 none", NOTHING, x.glimpses(0, 1, 1));
        x.go(0, 1);
        due("P22 now, too, once", 1, x.glimpses(0, 1, 0));
        due("P22 at minute 0", 0, x.glimpses(0, 1, 1));
        due("P22 the other way", 1, x.glimpses(1, 0, 0));
        x.undo();
        x.minutes(3);
        due("P22 none yet", 0, x.glimpses(0, 1, 0));
        x.go(0, 1);
        due("P22 to now, it too", 1, x.glimpses(0, 1, 0));
        due("P22 the first is now", 3, x.glimpses(0, 1, 1));
        x.turn(0, true);
        due("P22 by another one", 1, x.glimpses(0, 1, 0));
        x.turn(1, true);
        due("P22 by none", 0, x.glimpses(0, 1, 0));
        x.turn(1, false);
        x.carry(1, 0);
        due("P22 carried away", 0, x.glimpses(0, 1, 0));
        LateMirrors y = court("room a; room b; door a b; man k 1 a; man m 0 b; mirror g b k;", 4);
        y.go(0, 1);
        y.go(1, 1);
        // at 4 he is in b, where the mirror shows minute 3, when the other one was there
        due("P22 one who is gone", 1, y.glimpses(0, 1, 0));
        y.minutes(1);
        due("P22 no more", 1, y.glimpses(0, 1, 0));
        due("P22 the first", 4, y.glimpses(0, 1, 1));
        LateMirrors z = court("room a; man k 1 a; man m 0 a; mirror g a k;", 299);
        due("P22 each minute but the first", 299, z.glimpses(0, 1, 0));
        due("P22 when it SHOWED minute 0", 1, z.glimpses(0, 1, 1));
    }

    private static void ghosts() {
        String text = "room a; room b; room c; door a b; door a c; man k 1 a; man m 1 a; man n 1 b; mirror g a k; "
                + "mirror h b k;";
        LateMirrors x = court(text, 1);
        due("P23 all are where they were", 0, x.ghosts(0));
        x.go(1, 1);
        x.go(2, 1);
        due("P23 of minute 0", 2, x.ghosts(0));
        due("P23 of another ROOM", 4, x.ghosts(1));
        due("P23 no MIRROR there", 0, x.ghosts(2));
        x.carry(1, 0);
        due("P23 of all that hang there", 6, x.ghosts(0));
        due("P23 none hangs there now", 0, x.ghosts(1));
        x.go(2, 1);
        due("P23 who is in the ROOM in which he is SHOWN is none", 2, x.ghosts(0));
        x.go(0, 2);
        due("P23 the king, too", 3, x.ghosts(0));
        x.turn(0, true);
        due("P23 it SHOWS nothing", 0, x.ghosts(0));
        x.turn(0, false);
        x.smash(0);
        x.minutes(9);
        due("P23 broken it SHOWS for ever", 3, x.ghosts(0));
        LateMirrors y = Checks.court(text);
        y.go(1, 1);
        due("P23 nothing is SHOWN yet", 0, y.ghosts(0));
        LateMirrors z = Checks.court(text.replace("man k 1", "man k 0"));
        z.go(1, 1);
        due("P23 of now nobody", 0, z.ghosts(0));
    }

    private static void oldest() {
        LateMirrors x = court("room a; man k 0 a; man m 1 a; man n 2 a; mirror f a m; mirror g a n; mirror h a n;", 0);
        due("P24 none SHOWS anything", NOTHING, x.oldest(0));
        due("P24 none SHOWS anything", NOTHING, x.oldest(1));
        x.minutes(1);
        due("P24 minute 0 by the first", 0, x.oldest(0));
        due("P24 minute 0", 0, x.oldest(1));
        x.minutes(1);
        due("P24 of alike ones the first", 1, x.oldest(0));
        due("P24 minute 0", 0, x.oldest(1));
        x.minutes(3);
        due("P24 the least", 1, x.oldest(0));
        due("P24 the least", 3, x.oldest(1));
        x.turn(1, true);
        due("P24 the last", 2, x.oldest(0));
        x.raise(2, 0);
        due("P24 the first", 0, x.oldest(0));
        due("P24 the first", 4, x.oldest(1));
        x.raise(1, 6);
        due("P24 the first SHOWS nothing", 2, x.oldest(0));
        due("P24 now", 5, x.oldest(1));
        due("P24 no MIRRORS", NOTHING, Checks.court("room a; man k 0 a;").oldest(0));
    }

    private static void shown() {
        String court = "room a; man k 0 a; mirror g a k; late = ";
        LateMirrors x = court(court + "0;", 0);
        due("P25 once", 0, x.shown(0, false));
        due("P25 none between", 0, x.shown(0, true));
        x.smash(0);
        x.minutes(1);
        due("P25 minute 0 twice", 1, x.shown(0, false));
        x.minutes(4);
        due("P25 more often is once twice", 1, x.shown(0, false));
        due("P25 none between", 0, x.shown(0, true));
        LateMirrors y = court(court + "if minute < 3 then 240 else if minute < 4 then 0 else if minute < 6 then 240 "
                + "else 0;", 2);
        due("P25 nothing yet", 0, y.shown(0, false));
        due("P25 nothing yet", 0, y.shown(0, true));
        y.minutes(3);
        due("P25 3 alone", 0, y.shown(0, true));
        y.minutes(1);
        due("P25 3 and 6", 2, y.shown(0, true));
        due("P25 none twice", 0, y.shown(0, false));
        y.minutes(1);
        due("P25 3, 6 and 7", 2, y.shown(0, true));
        LateMirrors z = court(court + "minute - minute / 2;", 4);
        due("P25 0 0 1 1 2", 2, z.shown(0, false));
        due("P25 none skipped", 0, z.shown(0, true));
        z.minutes(1);
        due("P25 0 0 1 1 2 2", 3, z.shown(0, false));
        LateMirrors w = court(court + "if minute < 2 then 0 else minute - 1;", 4);
        due("P25 0 1 1 1 1", 1, w.shown(0, false));
        LateMirrors v = court(court + "if minute < 1 then 0 else if minute < 299 then 240 else 0;", 299);
        due("P25 0, then 0 to 58, then 299", 1, v.shown(0, false));
        due("P25 0, then 0 to 58, then 299", 240, v.shown(0, true));
        v.turn(0, true);
        due("P25 without 299", 0, v.shown(0, true));
    }

    // ---- promises 28, 35: ranks

    private static void rankFor() {
        LateMirrors x = court("room a; man k 9 a; mirror g a k; late = rank / 3;", 9);
        int[] ranks = {-2, -2, -2, 18, 15, 12, 9, 6, 3, 0};
        for (int t = 0; t <= 9; t++) {
            due("P28 the least RANK for " + t, ranks[t], x.rankFor(0, t));
        }
        LateMirrors y = court("room a; man k 9 a; mirror g a k;", 20);
        due("P28 the last RANK", 20, y.rankFor(0, 0));
        due("P28 the first RANK", 0, y.rankFor(0, 20));
        y.minutes(1);
        due("P28 beyond the last RANK", NOTHING, y.rankFor(0, 0));
        due("P28 the last RANK", 20, y.rankFor(0, 1));
        due("P28 his own", 9, y.rankFor(0, 12));
        y.turn(0, true);
        due("P28 turned", NOTHING, y.rankFor(0, 21));
        due("P28 turned", NOTHING, y.rankFor(0, 12));
        y.minutes(1);
        y.turn(0, false);
        due("P28 turned at that minute", NOTHING, y.rankFor(0, 21));
        due("P28 not at that one", 2, y.rankFor(0, 20));
        due("P28 nor at this one", 0, y.rankFor(0, 22));
        y.smash(0);
        due("P28 broken", NOTHING, y.rankFor(0, 13));
        due("P28 broken", NOTHING, y.rankFor(0, 22));
        LateMirrors z = court("room a; man k 0 a; mirror g a k; late = 20 - rank;", 20);
        due("P28 the last RANK", 20, z.rankFor(0, 20));
        due("P28 the first RANK", 0, z.rankFor(0, 0));
        LateMirrors w = court("room a; man k 0 a; mirror g a k; late = rank * 100 - 1000;", 250);
        due("P28 held to 0", 0, w.rankFor(0, 250));
        due("P28 held to 240", 13, w.rankFor(0, 10));
        due("P28 between", 11, w.rankFor(0, 150));
        due("P28 with none", NOTHING, w.rankFor(0, 9));
        LateMirrors v = court("room a; man k 0 a; man m 7 a; mirror g a k; late = rank + with;", 9);
        due("P28 its owner's", 3, v.rankFor(0, 4));
        due("P28 with whoever is there", NOTHING, v.rankFor(0, 8));
        due("P28 at minute 0", 0, Checks.court("room a; man k 5 a; mirror g a k;").rankFor(0, 0));
    }

    private static void jolt() {
        LateMirrors x = Checks.court("room a; room b; man k 5 a; man m 20 a; man n 0 b; mirror g a k; mirror h a k; "
                + "mirror i b m;late = if number < 1 then rank / 10 else 240 - rank;");
        due("P35 the most is 0", 0, x.jolt(0, 9, 0));
        due("P35 none later", 0, x.jolt(0, 9, 1));
        due("P35 one less late", 4, x.jolt(0, 9, 2));
        due("P35 his own RANK", 0, x.jolt(0, 5, 0) + x.jolt(0, 5, 1) + x.jolt(0, 5, 2));
        due("P35 the last RANK", 2, x.jolt(0, 20, 0));
        due("P35 the last RANK", 2, x.jolt(0, 20, 1));
        due("P35 the last RANK", 15, x.jolt(0, 20, 2));
        due("P35 the first RANK", 5, x.jolt(0, 0, 0));
        due("P35 the first RANK", 0, x.jolt(0, 0, 2));
        due("P35 his only one", 20, x.jolt(1, 0, 0));
        due("P35 without MIRRORS", 0, x.jolt(2, 9, 0) + x.jolt(2, 9, 1) + x.jolt(2, 9, 2));
        x.smash(0);
        due("P35 below 0: less late", -15, x.jolt(0, 20, 0));
        due("P35 less late", 15, x.jolt(0, 20, 2));
        x.smash(1);
        due("P35 without such", 0, x.jolt(0, 20, 0) + x.jolt(0, 20, 1) + x.jolt(0, 20, 2));
        x.raise(1, 0);
        due("P35 from 240", -20, x.jolt(1, 20, 0));
        LateMirrors y = court("room a; man k 0 a; mirror g a k; late = rank * 100 - 100;", 3);
        due("P35 from 0, held to 240", 240, y.jolt(0, 20, 0));
        due("P35 from 0, held to 0", 0, y.jolt(0, 1, 0));
        y.raise(0, 20);
        due("P35 from 240, held", -240, y.jolt(0, 0, 0));
        due("P35 from 240, held", 0, y.jolt(0, 4, 0));
        due("P35 it is no thing done", 2, y.count(8));
    }

    // ---- promises 29, 30, 32 to 34, 38, 39: what would be

    private static final String LINE = "room a; room b; room c; room d; room e; door a b; door b c; door c d;"
            + "man k 0 a; man m 2 d; man n 3 d; man o 0 e; mirror f a m; mirror g a n; mirror h a n;";

    private static void view() {
        LateMirrors x = court(LINE, 5);
        due("P29 three DOORS, three MINUTES", 8, x.view(1, 0, 5, 0));
        due("P29 of alike ones the first", 1, x.view(1, 0, 5, 1));
        due("P29 too late", NOTHING, x.view(1, 0, 4, 0));
        due("P29 who is there", 7, x.view(0, 0, 5, 0));
        due("P29 who is there", 0, x.view(0, 0, 5, 1));
        due("P29 now", 5, x.view(0, 0, 3, 0));
        due("P29 now", 0, x.view(0, 0, 3, 1));
        due("P29 now by another", 5, x.view(0, 0, 2, 0));
        due("P29 now by another", 1, x.view(0, 0, 2, 1));
        due("P29 no more", NOTHING, x.view(0, 0, 1, 0));
        due("P29 not that ROOM", NOTHING, x.view(0, 1, 5, 0));
        due("P29 no way", NOTHING, x.view(3, 0, 5, 0));
        x.smash(0);
        due("P29 broken ones go on", 8, x.view(1, 0, 3, 0));
        due("P29 broken ones go on", 0, x.view(1, 0, 3, 1));
        due("P29 no way for ever", NOTHING, x.view(3, 0, 3, 0));
        x.carry(2, 3);
        due("P29 where it hangs now, the ROOM in which it hung", 5, x.view(1, 0, 2, 0));
        due("P29 where it hangs now, the ROOM in which it hung", 2, x.view(1, 0, 2, 1));
        x.minutes(291);
        due("P29 three DOORS to 299", 299, x.view(1, 0, 3, 0));
        x.minutes(1);
        due("P29 beyond 299", NOTHING, x.view(1, 0, 3, 0));
        x.go(1, 1);
        due("P29 two DOORS to 299", 299, x.view(1, 0, 3, 0));
        LateMirrors y = court(AT_THE_END + "late = if minute < 299 then 0 else 240;", 60);
        due("P29 at 299", 299, y.view(0, 0, 59, 0));
        due("P29 at 299", 0, y.view(0, 0, 59, 1));
        due("P29 at 299, whatever GOES tells", 299, y.view(1, 0, 59, 0));
    }

    private static void wouldBe() {
        LateMirrors x = court(AT_THE_END, 290);
        due("P30 in 0", 1, x.willBe(1, 0));
        due("P30 in 8", 1, x.willBe(1, 8));
        due("P30 in 9", 0, x.willBe(1, 9));
        due("P30 as far as 299", 0, x.willBe(1, 10));
        due("P30 as far as 299", 0, x.willBe(1, 299));
        due("P34 in 8", 0, x.seen(1, 8));
        due("P34 in 9", 1, x.seen(1, 9));
        due("P34 as far as 299", 1, x.seen(1, 299));
        due("P34 now, too", 1, x.seen(0, 0));
        due("P34 the king", 10, x.seen(0, 9));
        due("P34 the king", 10, x.seen(0, 299));
        due("P38 at 299 alone", 1, x.turned(1, 0));
        due("P38 at 299 alone", 1, x.turned(1, 1));
        x.turn(0, true);
        due("P38 turned already", 0, x.turned(1, 0));
        due("P34 turned", 0, x.seen(1, 299));
        x.turn(0, false);
        x.smash(0);
        due("P38 broken ahead", 0, x.turned(1, 1));
        due("P38 broken it SHOWS him", 1, x.turned(0, 1));
        due("P34 broken it SHOWS him again and again", 10, x.seen(0, 299));
        x.undo();
        x.minutes(9);
        due("P30 at 299", 0, x.willBe(1, 0));
        due("P34 at 299", 1, x.seen(1, 299));
        due("P32 at 299", 1, x.still(0, 299));
        due("P32 at 299 not the minute ahead", 0, x.still(0, 298));
        due("P33 at 299", 299, x.soonest(0, 299, 0));
        due("P33 at 299", 0, x.soonest(0, 299, 1));
        due("P38 at 299", 1, x.turned(1, 1));
        due("P8 nothing happened", 299, x.count(4));
        LateMirrors y = court(AT_THE_END + "late = if minute < 299 then 0 else 240;", 60);
        due("P32 at 299", 1, y.still(0, 59));
        due("P32 of another ROOM", 0, y.still(1, 59));
        due("P32 not at 298", 0, y.still(0, 58));
        due("P33 at 299", 299, y.soonest(0, 59, 0));
        due("P33 now", 60, y.soonest(0, 60, 0));
        due("P33 by none", NOTHING, y.soonest(0, 58, 0));
        due("P33 by none", NOTHING, y.soonest(1, 59, 1));
        LateMirrors z = court("room a; man k 0 a; mirror g a k;", 0);
        due("P34 to 299", 300, z.seen(0, 299));
        due("P34 to 298", 299, z.seen(0, 298));
        LateMirrors w = court(LINE, 5);
        due("P32 MIRRORS", 7, w.still(0, 5));
        due("P32 too late for the first", 6, w.still(0, 2));
        due("P33 the first of alike ones", 1, w.soonest(0, 2, 1));
        due("P33 the soonest", 7, w.soonest(0, 5, 0));
        due("P33 the soonest", 0, w.soonest(0, 5, 1));
        w.carry(1, 3);
        due("P32 of the ROOM in which it hung", 6, w.still(0, 2));
        due("P32 of now", 2, w.still(3, 5));
        // breakages to come: by seed 7 the mirror breaks at 6, showing 5
        LateMirrors v = court("room a; man k 1 a; mirror g a k; breaks 30; seed 7;", 5);
        due("P34 broken in what would be", 295, v.seen(0, 299));
        due("P33 as it will break", 6, v.soonest(0, 5, 0));
        due("P32 as it will break", 1, v.still(0, 5));
        due("P8 nothing breaks by asking", 0, v.count(5));
    }

    private static void odds() {
        // the first lot of mirror 0 below 1: by seed 750 at 299, by seed 1886 at 300
        LateMirrors x = court("room a; man k 0 a; mirror g a k; breaks 1; seed 750;", 0);
        due("P39 not by 298", 0, x.odds(0, 298, 1));
        due("P39 at 299", 1, x.odds(0, 299, 1));
        x.minutes(298);
        due("P39 now", 0, x.odds(0, 0, 1));
        due("P39 in 1", 1, x.odds(0, 1, 1));
        due("P39 as far as 299", 1, x.odds(0, 299, 1));
        x.minutes(1);
        due("P39 broken now", 1, x.odds(0, 0, 1));
        due("P39 broken now", 10, x.odds(0, 0, 10));
        LateMirrors y = court("room a; man k 0 a; mirror g a k; breaks 1; seed 1886;", 0);
        due("P39 not by 299", 0, y.odds(0, 299, 1));
        y.minutes(150);
        due("P39 as far as 299", 0, y.odds(0, 299, 1));
        due("P39 as far as 299", 0, y.odds(0, 149, 1));
        due("P39 as far as 299", 0, y.odds(0, 150, 1));
        // the first lots by seeds 7 .. 16: 98 72 5 61 36 85 27 3 32 9
        LateMirrors z = court("room a; man k 0 a; mirror g a k; breaks 9; seed 7;", 0);
        int[] found = {0, 0, 1, 1, 1, 1, 1, 2, 2, 2};
        for (int s = 1; s <= 10; s++) {
            due("P39 by " + s + " SEEDS", found[s - 1], z.odds(0, 1, s));
            due("P39 in 0 MINUTES", 0, z.odds(0, 0, s));
        }
        due("P39 BREAKS 0", 0, court("room a; man k 0 a; mirror g a k;", 0).odds(0, 299, 10));
        LateMirrors w = court("room a; man k 0 a; mirror g a k; mirror h a k; breaks 100;", 0);
        due("P39 BREAKS 100, now", 0, w.odds(1, 0, 10));
        due("P39 BREAKS 100, in 1", 10, w.odds(1, 1, 10));
        w.smash(0);
        due("P39 broken by hand", 7, w.odds(0, 0, 7));
        due("P39 the other one not", 0, w.odds(1, 0, 7));
        w.minutes(299);
        due("P39 at 299", 3, w.odds(1, 299, 3));
    }

    // ---- promises 31, 36, 37: where to stand, by which way

    private static final String EIGHT = "room a;room b;room c;room d;room e;room f;room g;room h;";

    private static void rests() {
        LateMirrors x = Checks.court("room a; room b; man k 0 a; man m 0 a; man n 0 a; mirror g a k;");
        // he and the other one not counted, a is worth 1 and b nothing
        due("P31 one each", 2, x.rests(0, 1, NONE));
        due("P31 the first", 1, x.rests(0, 1, 0));
        due("P31 the second", 10, x.rests(0, 1, 1));
        due("P31 not so many", NONE, x.rests(0, 1, 2));
        due("P31 other two", 2, x.rests(2, 1, NONE));
        LateMirrors y = Checks.court("room a; man k 0 a; man m 0 a; mirror g a k;");
        due("P31 one ROOM", 1, y.rests(0, 1, NONE));
        due("P31 one ROOM", 0, y.rests(0, 1, 0));
        due("P31 one ROOM", NONE, y.rests(0, 1, 1));
        LateMirrors z = Checks.court(EIGHT + "man k 0 a; man m 0 a;");
        due("P31 any two ROOMS of eight", 56, z.rests(0, 1, NONE));
        due("P31 the first", 1, z.rests(0, 1, 0));
        due("P31 the eighth", 10, z.rests(0, 1, 7));
        due("P31 the last", 76, z.rests(0, 1, 55));
        due("P31 not so many", NONE, z.rests(0, 1, 56));
        // a is worth 2 to both: to stand there together is as good as elsewhere
        LateMirrors w = Checks.court("room a; room b; man k 0 a; man m 0 a; man n 0 a; man o 0 a; mirror g a k; "
                + "mirror h a m;");
        due("P31 each once, alike is not more", 3, w.rests(0, 1, NONE));
        due("P31 together", 0, w.rests(0, 1, 0));
        due("P31 the last", 10, w.rests(0, 1, 2));
        w.turn(0, true);
        w.turn(1, true);
        due("P31 nothing is SHOWN", 2, w.rests(0, 1, NONE));
        due("P31 no MIRRORS, not so many", NONE, w.rests(0, 1, 2));
    }

    private static void hidden() {
        String line = EIGHT + "door a b;door b c;door c d;door d e;door e f;door f g;door g h;";
        LateMirrors x = Checks.court(line + "man k 0 a; mirror ga d k; mirror gb d k;");
        due("P36 from the ROOM itself", 0, x.hidden(0, 0, 0));
        due("P36 from the ROOM itself", 0, x.hidden(0, 0, 1));
        due("P36 the last ROOM itself", 7, x.hidden(7, 7, 1));
        due("P36 in the way", NOTHING, x.hidden(0, 7, 0));
        due("P36 in the way", NOTHING, x.hidden(0, 7, 1));
        due("P36 to it", NOTHING, x.hidden(2, 3, 0));
        due("P36 from it", NOTHING, x.hidden(3, 2, 0));
        due("P36 it itself", NOTHING, x.hidden(3, 3, 0));
        due("P36 it itself", NOTHING, x.hidden(3, 3, 1));
        due("P36 up to it", 2, x.hidden(0, 2, 0));
        x.turn(0, true);
        due("P36 one of two is turned", NOTHING, x.hidden(0, 7, 0));
        x.smash(1);
        due("P36 one turned, one broken", 7, x.hidden(0, 7, 0));
        due("P36 the first ROOM", 1, x.hidden(0, 7, 1));
        due("P36 the other way", 7, x.hidden(7, 0, 0));
        due("P36 the other way", 6, x.hidden(7, 0, 1));
        x.turn(0, false);
        x.carry(0, 0);
        due("P36 in the first ROOM", NOTHING, x.hidden(0, 7, 0));
        due("P36 not in the way", 6, x.hidden(1, 7, 0));
        LateMirrors y = Checks.court(EIGHT + "door a b;".repeat(11) + "door c a; man k 0 a;");
        due("P36 by the 12th DOOR", 1, y.hidden(0, 2, 0));
        due("P36 by the 12th DOOR", 2, y.hidden(0, 2, 1));
        due("P36 two DOORS", 2, y.hidden(1, 2, 0));
        due("P36 two DOORS", 0, y.hidden(1, 2, 1));
        due("P36 no DOOR", NOTHING, y.hidden(0, 3, 0));
        LateMirrors z = Checks.court(EIGHT + "door a h;door a b;door b d;door h d;door a c;door c d; man k 0 a;");
        due("P36 by the first DOOR by which that can be", 7, z.hidden(0, 3, 1));
        due("P36 and back", 1, z.hidden(3, 0, 1));
    }

    private static void stand() {
        LateMirrors x = Checks.court("room a; room b; room c; door a b; man k 0 a; man m 0 b; man n 0 b; "
                + "mirror f a k; mirror g a k;mirror h b k; mirror i c k;");
        due("P37 each once", 1, x.stand(0));
        due("P37 most", 2, x.stand(1));
        x.carry(2, 0);
        due("P37 of now", 0, x.stand(0));
        due("P37 not of what is not SHOWN", 1, x.stand(1));
        x.carry(2, 2);
        x.go(1, 1);
        due("P37 the first", 0, x.stand(0));
        due("P37 two", 2, x.stand(1));
        for (int m = 0; m < 4; m++) {
            x.turn(m, true);
        }
        due("P37 nobody is SHOWN: the first", 0, x.stand(0));
        due("P37 nobody is SHOWN", 0, x.stand(1));
        due("P37 of alike ones the first", 1, Checks.court("room a; room b; room c; man k 0 b; man m 0 c; "
                + "mirror g c k;mirror h b k;").stand(0));
        due("P37 the last", 2, Checks.court("room a; room b; room c; man k 0 c; mirror g c k;").stand(0));
        due("P37 no ROOMS", NOTHING, Checks.court("seed 5;").stand(0));
        due("P37 no ROOMS", NOTHING, Checks.court("seed 5;").stand(1));
    }

    // ---- promises 40 to 42: what is told

    private static void told() {
        LateMirrors x = Checks.court("room a; room b; man m 0 a; mirror g a m; mirror h b m; "
                + "late = if number < 1 then 50 else 0;");
        for (int n = 0; n < 19; n++) {
            due("P40 its number", n, x.tell(0, 0, 0, false));
        }
        due("P40 the 20th", 19, x.tell(1, 0, 0, true));
        due("P40 20 are there", NONE, x.tell(1, 0, 0, true));
        due("P45 20 are there", 20, x.count(9));
        due("P42 nothing is KNOWN", 2, x.began(0, 0, NONE));
        due("P42 by 19", 2, x.began(0, 19, NONE));
        due("P42 by 19 the first", 0, x.began(0, 19, 0));
        due("P42 by 20", 1, x.began(0, 20, NONE));
        due("P42 by 20 the first", 1, x.began(0, 20, 0));
        due("P42 not so many", NONE, x.began(0, 20, 1));
        due("P42 not so many KNOWN", NONE, x.began(0, 21, NONE));
        due("P41 all is forgotten", 20, x.forget());
        due("P41 none is there", 0, x.forget());
        due("P42 none is KNOWN any more", NONE, x.began(0, 1, NONE));
        due("P40 the first again", 0, x.tell(0, 99, 0, true));
        due("P42 minute 99, which SHOWS 49", 1, x.began(0, 1, NONE));
        due("P42 minute 99, which SHOWS 49", 0, x.began(0, 1, 0));
        due("P40 the second again", 1, x.tell(1, 99, 0, true));
        due("P42 both cannot be", 0, x.began(0, 2, NONE));
        due("P42 both cannot be", NONE, x.began(0, 2, 0));
        due("P41 two", 2, x.forget());
        x.minutes(299);
        x.tell(1, 99, 0, true);
        due("P42 of the text, whatever is now", 1, x.began(0, 1, 0));
        due("P40 is no thing done", 1, x.count(8));
    }

    private static void began() {
        // by seed 7 and 45 the mirror breaks at 2, and shows 2 for ever: who began in a was there then
        String away = "room a; room b; door a b; man m 0 b; goes m = 1; mirror g a m; seed 7; breaks ";
        LateMirrors x = Checks.court(away + "45;");
        x.tell(0, 3, 0, true);
        due("P42 broken by then", 1, x.began(0, 1, NONE));
        due("P42 broken by then", 0, x.began(0, 1, 0));
        LateMirrors y = Checks.court(away + "0;");
        y.tell(0, 3, 0, true);
        due("P42 whole", 1, y.began(0, 1, 0));
        y.go(0, 1);
        y.turn(0, true);
        y.raise(0, 3);
        y.carry(0, 1);
        y.smash(0);
        due("P42 nothing by hand", 1, y.began(0, 1, 0));
        due("P42 nothing by hand", 1, y.began(0, 1, NONE));
        // who is in a makes the mirror late there: at minute 0 it shows nothing, or nobody
        LateMirrors z = Checks.court("room a; room b; man m 0 b; mirror g a m; late = with;");
        z.tell(0, 0, 0, false);
        due("P42 how LATE by where he began", 2, z.began(0, 1, NONE));
        z.tell(0, 1, 0, true);
        due("P42 how LATE by where he began", 0, z.began(0, 2, 0));
        due("P42 how LATE by where he began", 1, z.began(0, 2, NONE));
        // of another man than the one that is asked for
        LateMirrors w = Checks.court("room a; room b; room c; man k 0 a; man m 0 b; mirror g c k; mirror h b k;");
        w.tell(1, 5, 1, true);
        due("P42 all else as the text", 3, w.began(0, 1, NONE));
        w.tell(0, 5, 1, false);
        w.tell(0, 0, 0, true);
        due("P42 the last ROOM", 2, w.began(0, 3, 0));
        due("P42 all else as the text", 0, w.began(1, 3, NONE));
        due("P42 of the first two", 1, w.began(1, 2, NONE));
        due("P42 of the first two", 1, w.began(1, 2, 0));
        LateMirrors v = Checks.court(EIGHT + "man k 0 d; mirror ga h k;");
        v.tell(0, 0, 0, false);
        for (int i = 0; i < 7; i++) {
            due("P42 the first first", i, v.began(0, 1, i));
        }
        due("P42 not the last", NONE, v.began(0, 1, 7));
        due("P42 seven", 7, v.began(0, 1, NONE));
        due("P42 all", 7, v.began(0, 0, 7));
    }

    private static void counts() {
        LateMirrors x = Checks.court(EIGHT + "door a b;".repeat(12) + "man ka 0 a;man kb 0 a;man kc 0 a;man kd 0 a;"
                + "man ke 0 a;man kf 0 a;mirror ga a ka;mirror gb a ka;mirror gc a ka;mirror gd a ka;mirror ge a ka;"
                + "mirror gf a ka;mirror gg a ka;mirror gh a ka;");
        for (int m = 0; m < 8; m++) {
            x.smash(m);
            due("P45 broken ones", (2 << m) - 1, x.count(5));
            x.turn(m, true);
            due("P45 turned ones", (2 << m) - 1, x.count(6));
        }
        due("P45 things that can be undone", 16, x.count(8));
        due("P45 the minute", 0, x.count(4));
        x.minutes(299);
        due("P45 the minute", 299, x.count(4));
        for (int n = 1; n <= 5; n++) {
            x.turn(0, n % 2 == 0);
            due("P45 things that can be undone", Math.min(20, 17 + n), x.count(8));
        }
        due("P45 turned ones", 254, x.count(6));
        due("P45 broken ones", 255, x.count(5));
    }

    // ---- the last ones, later minutes

    private static final String ALL = "room a;room b;room c;room d;room e;room f;room g;room h;door a b;door b c;"
            + "door c d;door d e;door e f;door f g;door g h;door h a;man ma 1 b;man mb 2 c;man mc 3 d;man md 4 e;"
            + "man me 5 f;man mf 6 g;goes mf=1;mirror ga h ma;mirror gb g mb;mirror gc f mc;mirror gd e md;"
            + "mirror ge d me;mirror gf c mf;mirror gg b mf;mirror gh a mf;late=rank-number+here;";

    private static String state(LateMirrors x, int t) {
        StringBuilder found = new StringBuilder();
        for (int man = 0; man < 6; man++) {
            found.append(x.man(man, t, 0)).append(' ').append(x.man(man, t, 1)).append(' ');
        }
        for (int mirror = 0; mirror < 8; mirror++) {
            for (int what = 0; what <= 6; what++) {
                found.append(x.mirror(mirror, t, what)).append(' ');
            }
        }
        return found.toString();
    }

    /** Each of as many as there can be is kept, goes on, is undone, held and gone on from. */
    private static void eachOfAll() {
        for (int i = 0; i < 8; i++) {
            LateMirrors x = court(ALL, 2);
            String ahead = state(x, 2);
            int room = (7 - i + 3) % 8;
            due("P11 carried " + i, true, x.carry(i, room));
            due("P13 broken " + i, true, x.smash(i));
            due("P12 turned " + i, true, x.turn(i, true));
            due("P10 raised " + i, i < 6, x.raise(i, 20));
            due("P9 gone " + i, i < 6, x.go(i, 1));
            x.minutes(1);
            due("P7 hangs there " + i, room, x.mirror(i, 3, 0));
            due("P7 turned " + i, 1, x.mirror(i, 3, 2));
            due("P7 broken " + i, 1, x.mirror(i, 3, 3));
            due("P45 that one alone " + i, 1 << i, x.count(5) & x.count(6));
            due("P6 raised " + i, i < 6 ? 20 : NONE, x.man(i, 3, 1));
            String later = state(x, 3);
            x.hold(i % 3);
            for (int n = i < 6 ? 6 : 4; n > 0; n--) {
                due("P14 undone " + i, true, x.undo());
            }
            due("P14 all is as ahead " + i, true, ahead.equals(state(x, 2)));
            due("P44 gone on from " + i, true, x.restore(i % 3));
            due("P44 all is as held " + i, true, later.equals(state(x, 3)));
        }
    }

    /** What each of eight SHOWED as it broke is held, and what would be goes on from it. */
    private static void eachAsItBroke() {
        for (int i = 0; i < 8; i++) {
            LateMirrors x = court("room a;man k 0 a;mirror ga a k;mirror gb a k;mirror gc a k;mirror gd a k;"
                    + "mirror ge a k;mirror gf a k;mirror gg a k;mirror gh a k;", 3);
            x.smash(i);
            x.hold(0);
            x.undo();
            x.minutes(2);
            x.smash(i);
            x.minutes(1);
            all("II broken later", x, i, 6, 5, 0, 1);
            due("P32 broken later", 1 << i, x.still(0, 5));
            x.restore(0);
            x.minutes(1);
            all("P44 broken as held", x, i, 4, 3, 0, 1);
            due("P32 broken as held", 1 << i, x.still(0, 3));
        }
    }

    private static void lawsLater() {
        String court = "room a; room b; room c; door a b; door b c; man k 0 a; man m 0 c; mirror g a k; goes k = ";
        LateMirrors x = court(court + "rank;", 3);
        due("II rank 0", 0, x.man(0, 3, 0));
        x.raise(0, 1);
        x.minutes(1);
        due("II rank 1", 1, x.man(0, 4, 0));
        x.raise(0, 2);
        x.minutes(1);
        due("II rank 2", 2, x.man(0, 5, 0));
        int[] rooms = {0, 1, 2, 1, 2, 1};
        LateMirrors y = court(court + "here + 1;", 5);
        LateMirrors z = court(court + "ways;", 5);
        for (int t = 0; t <= 5; t++) {
            due("II here at " + t, rooms[t], y.man(0, t, 0));
            due("II ways at " + t, rooms[t], z.man(0, t, 0));
        }
        LateMirrors w = court(court + "with; late = here * 100 + ways * 10 + with;", 3);
        w.go(1, 1);
        w.go(1, 1);
        due("II LATE's ways and with", 12, w.mirror(0, 3, 1));
        w.minutes(1);
        due("II with one", 1, w.man(0, 4, 0));
        w.minutes(1);
        due("II with none", 1, w.man(0, 5, 0));
        due("II LATE's with, less one", 11, w.mirror(0, 5, 1));
        w.carry(0, 1);
        due("II LATE's here", 121, w.mirror(0, 5, 1));
        w.minutes(1);
        due("II LATE's here", 121, w.mirror(0, 6, 1));
        w.carry(0, 2);
        due("II LATE's here", 210, w.mirror(0, 6, 1));
        LateMirrors v = court(court + "0; mirror h b m; late = rank + number * 3 + here;", 9);
        due("P28 of the second MIRROR", 2, v.rankFor(1, 3));
        due("P28 of the first MIRROR", 6, v.rankFor(0, 3));
        v.carry(1, 0);
        due("P28 where it hangs now", 3, v.rankFor(1, 3));
    }

    private static void changesLater() {
        LateMirrors x = court("room a; room b; room c; door a b; door b c; man k 1 a; man m 1 b; mirror g a k; "
                + "mirror h c k;late = rank * (1 + number);", 4);
        due("P36 MIRRORS in both", NOTHING, x.hidden(0, 2, 0));
        due("P35 later by both", 9, x.jolt(0, 4, 1));
        x.smash(0);
        due("P35 without the one that is broken now", 6, x.jolt(0, 4, 1));
        due("P36 one is left", NOTHING, x.hidden(0, 2, 0));
        x.turn(1, true);
        due("P36 turned now", 2, x.hidden(0, 2, 0));
        due("P35 turned ones count", 6, x.jolt(0, 4, 1));
        x.minutes(1);
        x.turn(1, false);
        due("P36 turned ahead", NOTHING, x.hidden(0, 2, 0));
        x.carry(1, 1);
        due("P36 carried now", NOTHING, x.hidden(0, 1, 0));
        due("P36 carried now", 2, x.hidden(2, 2, 1));
        LateMirrors z = court("room a; room b; door a b; man k 1 a; man m 1 a; mirror g a k;", 4);
        z.go(1, 1);
        due("P23 where it hangs", 2, z.ghosts(0));
        z.carry(0, 1);
        due("P23 not where it hung", 0, z.ghosts(0));
        due("P23 where it hangs now, not in the ROOM that it SHOWS", 2, z.ghosts(1));
        LateMirrors y = Checks.court(EIGHT + "man k 0 a; man m 0 a; man n 0 h; man o 0 h; mirror ga h k; "
                + "mirror gb b k;");
        due("P31 one of them in h, or both", 15, y.rests(0, 1, NONE));
        due("P31 the first", 7, y.rests(0, 1, 0));
        due("P31 the last", 77, y.rests(0, 1, 14));
    }

    public static void main(String[] args) {
        eachOfAll();
        eachAsItBroke();
        lawsLater();
        changesLater();
        lawEdges();
        laws();
        ways();
        minutes();
        lots();
        kept();
        shows();
        broken();
        undoEach();
        undoTwenty();
        holdAndRestore();
        look();
        facing();
        deepest();
        whereOneWas();
        alone();
        crowd();
        glimpses();
        ghosts();
        oldest();
        shown();
        rankFor();
        jolt();
        view();
        wouldBe();
        odds();
        rests();
        hidden();
        stand();
        told();
        began();
        counts();
        Checks.end();
    }
}
