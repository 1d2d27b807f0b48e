/** A court in which each mirror runs late by its owner's rank. */
public final class LateMirrors {
    public static final int NONE = -1;

    private static final int NOTHING = -2;
    private static final int NO_JOLT = -1000;
    private static final int NEVER = 100000;
    private static final int FAR = 1000;

    private static final int LAST_MINUTE = 299;
    private static final int MINUTES = 300;
    private static final int ROOMS = 8;
    private static final int DOORS = 12;
    private static final int MEN = 6;
    private static final int MIRRORS = 8;
    private static final int HIGHEST_RANK = 20;
    private static final int LATEST = 240;
    private static final int TAPE_BYTES = 2000;
    private static final int FED_BYTES = 20;
    private static final int SLOTS = 3;
    private static final int UNDONE = 20;
    private static final int MOST_TOLD = 20;
    private static final int TOLD_SIZE = 4;
    private static final int TOLD_MINUTES = 100;
    private static final int FACING_MOST = 20;
    private static final int DEEPEST_MIRRORS = 4;
    private static final int MOST_SEEDS = 10;

    private static final int SYNTAX = 1;
    private static final int ROOM = 2;
    private static final int TWICE = 3;
    private static final int NAME = 4;
    private static final int WRONG = 5;

    private final int[] tape = new int[TAPE_BYTES];
    private int tapeSize;
    private int faultAt = NONE;
    private final Scanner scanner = new Scanner();
    private Text text = new Text();
    private Text spare = new Text();
    private final Court court = new Court(text);
    /** What would be, and what may have been: never what is. */
    private final Court maybe = new Court(text);
    private final Past past = new Past();
    private final Court[] slots = new Court[SLOTS];
    private int held;
    private final int[] known = new int[MOST_TOLD * TOLD_SIZE];
    private int knownSize;
    private final int[] steps = new int[ROOMS];
    private final int[] worths = new int[ROOMS];
    private final int[] tally = new int[MINUTES];

    public LateMirrors() {
        for (int slot = 0; slot < slots.length; slot++) {
            slots[slot] = new Court(text);
        }
    }

    // ---- the tape and the text

    public int feed(int a, int b, int c, int d, int e) {
        if (tapeSize > TAPE_BYTES - FED_BYTES) {
            return NONE;
        }
        addBytes(a);
        addBytes(b);
        addBytes(c);
        addBytes(d);
        addBytes(e);
        return tapeSize;
    }

    private void addBytes(int word) {
        for (int shift = 24; shift >= 0; shift -= 8) {
            put(tape, tapeSize, (word >>> shift) & 255);
            tapeSize++;
        }
    }

    public int back(int n) {
        if (n < 0 || n > tapeSize) {
            return NONE;
        }
        tapeSize -= n;
        return tapeSize;
    }

    public int read() {
        int fault = scanner.scan(tape, tapeSize);
        faultAt = scanner.faultAt;
        tapeSize = 0;
        if (fault == 0) {
            fault = spare.build(scanner);
            faultAt = spare.faultAt;
        }
        if (fault == 0) {
            takeSpare();
        }
        return fault;
    }

    /** The new text is built beside the old one, so that a fault leaves the old one whole. */
    private void takeSpare() {
        Text old = text;
        text = spare;
        spare = old;
        court.begin(text);
        past.clear();
        held = 0;
        knownSize = 0;
    }

    public int place() {
        return faultAt;
    }

    // ---- what is and was told of one man or one mirror

    public int man(int man, int minute, int what) {
        if (!isMan(man) || !isPast(minute) || !within(what, 2)) {
            return NONE;
        }
        return what == 0 ? court.roomOf(man, minute) : court.rankOf(man, minute);
    }

    public int mirror(int mirror, int minute, int what) {
        if (!isMirror(mirror) || !isPast(minute)) {
            return NONE;
        }
        switch (what) {
            case 0:
                return court.hangOf(mirror, minute);
            case 1:
                return court.lateOf(mirror, minute);
            case 2:
                return court.isTurned(mirror, minute) ? 1 : 0;
            case 3:
                return court.isBroken(mirror, minute) ? 1 : 0;
            case 4:
                return court.showing(mirror, minute);
            case 5:
                return court.roomShown(mirror, minute);
            case 6:
                return court.menShown(mirror, minute);
            default:
                return NONE;
        }
    }

    // ---- what is done

    public int minutes(int n) {
        if (!within(n, MINUTES) || n > LAST_MINUTE - court.minute) {
            return NONE;
        }
        if (n > 0) {
            past.keep(court);
        }
        court.goTo(court.minute + n);
        return court.minute;
    }

    public boolean go(int man, int door) {
        if (!isMan(man)) {
            return false;
        }
        int room = text.wayTo(court.roomOf(man, court.minute), door);
        if (room == NONE) {
            return false;
        }
        past.keep(court);
        court.putMan(man, room);
        return true;
    }

    public boolean raise(int man, int rank) {
        if (!isMan(man) || !isRank(rank) || court.rankOf(man, court.minute) == rank) {
            return false;
        }
        past.keep(court);
        court.putRank(man, rank);
        return true;
    }

    public boolean carry(int mirror, int room) {
        if (!isMirror(mirror) || !isRoom(room) || court.hangOf(mirror, court.minute) == room) {
            return false;
        }
        past.keep(court);
        court.putMirror(mirror, room);
        return true;
    }

    public boolean turn(int mirror, boolean wall) {
        if (!isMirror(mirror) || court.isTurned(mirror, court.minute) == wall) {
            return false;
        }
        past.keep(court);
        court.putWall(mirror, wall);
        return true;
    }

    public boolean smash(int mirror) {
        if (!isMirror(mirror) || court.isBroken(mirror, court.minute)) {
            return false;
        }
        past.keep(court);
        court.breakNow(mirror);
        return true;
    }

    public boolean undo() {
        return past.takeBack(court);
    }

    // ---- what is seen in mirrors

    public int look(int one, int other, int third, int what) {
        boolean two = third == NONE;
        if (!isMirror(one) || !isMirror(other) || !two && !isMirror(third) || !within(what, 3)) {
            return NONE;
        }
        int minute = court.seenIn(one, court.showing(one, court.minute), other);
        int end = other;
        if (!two) {
            minute = court.seenIn(other, minute, third);
            end = third;
        }
        if (minute < 0) {
            return NOTHING;
        }
        int room = court.hangOf(end, minute);
        return what == 0 ? minute : what == 1 ? room : court.menIn(room, minute);
    }

    public int facing(int one, int other, int i) {
        if (!isMirror(one) || !isMirror(other) || one == other) {
            return NONE;
        }
        if (i == NONE) {
            return facingTimes(one, other);
        }
        if (!within(i, FACING_MOST)) {
            return NONE;
        }
        int minute = facingMinute(one, other, i);
        return minute < 0 ? NONE : minute;
    }

    private int facingTimes(int one, int other) {
        for (int n = 0; n < FACING_MOST; n++) {
            if (facingMinute(one, other, n) < 0) {
                return n;
            }
        }
        return FACING_MOST;
    }

    /** Below 0 if so many are not shown. */
    private int facingMinute(int one, int other, int i) {
        int minute = court.showing(one, court.minute);
        for (int n = 1; n <= i; n++) {
            boolean odd = (n & 1) == 1;
            minute = court.seenIn(odd ? one : other, minute, odd ? other : one);
        }
        return minute;
    }

    public int glimpses(int man, int other, int what) {
        if (!isMan(man) || !isMan(other) || man == other || !within(what, 2)) {
            return NONE;
        }
        int times = 0;
        int first = NOTHING;
        for (int t = 0; t <= court.minute; t++) {
            int room = court.roomOf(man, t);
            if (has(court.menShownIn(room, t), other)) {
                first = times == 0 ? t : first;
                times++;
            }
        }
        return what == 0 ? times : first;
    }

    public int ghosts(int room) {
        if (!isRoom(room)) {
            return NONE;
        }
        int now = court.minute;
        int found = 0;
        for (int m = 0; m < text.mirrors; m++) {
            if (court.hangOf(m, now) == room && court.showing(m, now) >= 0) {
                int here = court.menIn(court.roomShown(m, now), now);
                found |= court.menShown(m, now) & ~here;
            }
        }
        return found;
    }

    public int oldest(int what) {
        if (!within(what, 2)) {
            return NONE;
        }
        int which = NOTHING;
        int least = NOTHING;
        for (int m = 0; m < text.mirrors; m++) {
            int minute = court.showing(m, court.minute);
            if (minute >= 0 && (least < 0 || minute < least)) {
                which = m;
                least = minute;
            }
        }
        return what == 0 ? which : least;
    }

    public int shown(int mirror, boolean skipped) {
        if (!isMirror(mirror)) {
            return NONE;
        }
        tallyShown(mirror);
        int least = MINUTES;
        int greatest = NONE;
        int once = 0;
        int often = 0;
        for (int t = 0; t < MINUTES; t++) {
            int times = at(tally, t);
            if (times > 0) {
                least = Math.min(least, t);
                greatest = t;
                once++;
            }
            if (times > 1) {
                often++;
            }
        }
        return !skipped ? often : once == 0 ? 0 : greatest - least + 1 - once;
    }

    private void tallyShown(int mirror) {
        for (int t = 0; t < MINUTES; t++) {
            put(tally, t, 0);
        }
        for (int t = 0; t <= court.minute; t++) {
            int minute = court.showing(mirror, t);
            if (minute >= 0) {
                put(tally, minute, at(tally, minute) + 1);
            }
        }
    }

    public int deepest(int mirror, int what) {
        if (!isMirror(mirror) || !within(what, 2)) {
            return NONE;
        }
        int minute = court.showing(mirror, court.minute);
        if (minute < 0) {
            return NOTHING;
        }
        int least = leastSeen(court, mirror, minute, DEEPEST_MIRRORS);
        if (what == 0) {
            return least;
        }
        for (int mirrors = 1; mirrors < DEEPEST_MIRRORS; mirrors++) {
            if (leastSeen(court, mirror, minute, mirrors) == least) {
                return mirrors;
            }
        }
        return DEEPEST_MIRRORS;
    }

    /** The least minute in a mirror that shows a minute, or in one in it, through so many mirrors at most. */
    private static int leastSeen(Court court, int mirror, int minute, int mirrors) {
        int least = minute;
        if (mirrors <= 1 || mirrors > DEEPEST_MIRRORS) {
            return least;
        }
        for (int m = 0; m < MIRRORS; m++) {
            int inner = court.seenIn(mirror, minute, m);
            if (inner >= 0) {
                least = Math.min(least, leastSeen(court, m, inner, mirrors - 1));
            }
        }
        return least;
    }

    // ---- what was

    public int last(int man, int room) {
        if (!isMan(man) || !isRoom(room)) {
            return NONE;
        }
        for (int t = court.minute; t >= 0; t--) {
            if (court.roomOf(man, t) == room) {
                return t;
            }
        }
        return NOTHING;
    }

    public int visits(int man, int room) {
        if (!isMan(man) || room != NONE && !isRoom(room)) {
            return NONE;
        }
        int times = 0;
        for (int t = 0; t <= court.minute; t++) {
            int where = court.roomOf(man, t);
            boolean moved = t > 0 && where != court.roomOf(man, t - 1);
            if (room == NONE ? moved : where == room) {
                times++;
            }
        }
        return times;
    }

    public int alone(int man, boolean row) {
        if (!isMan(man)) {
            return NONE;
        }
        return aloneTimes(man, row);
    }

    private int aloneTimes(int man, boolean row) {
        int times = 0;
        int longest = 0;
        int length = 0;
        for (int t = 0; t <= court.minute; t++) {
            boolean single = court.menIn(court.roomOf(man, t), t) == 1 << man;
            length = single ? length + 1 : 0;
            times += single ? 1 : 0;
            longest = Math.max(longest, length);
        }
        return row ? longest : times;
    }

    public int lonely() {
        int which = NOTHING;
        int most = -1;
        for (int man = 0; man < text.men; man++) {
            int times = aloneTimes(man, false);
            if (times > most) {
                most = times;
                which = man;
            }
        }
        return which;
    }

    public int together(int man, int other, int what) {
        if (!isMan(man) || !isMan(other) || man == other || !within(what, 2)) {
            return NONE;
        }
        int times = 0;
        int latest = NOTHING;
        for (int t = 0; t <= court.minute; t++) {
            if (court.roomOf(man, t) == court.roomOf(other, t)) {
                times++;
                latest = t;
            }
        }
        return what == 0 ? times : latest;
    }

    public int crowd(int minute, int what) {
        if (!isPast(minute) || !within(what, 2)) {
            return NONE;
        }
        int which = NOTHING;
        int most = NOTHING;
        for (int room = 0; room < text.rooms; room++) {
            int men = Integer.bitCount(court.menIn(room, minute));
            if (men > most) {
                most = men;
                which = room;
            }
        }
        return what == 0 ? which : most;
    }

    // ---- ranks and lateness

    public int rankFor(int mirror, int minute) {
        if (!isMirror(mirror) || !isPast(minute)) {
            return NONE;
        }
        int now = court.minute;
        if (court.isBroken(mirror, now) || court.isTurned(mirror, now) || court.isTurned(mirror, minute)) {
            return NOTHING;
        }
        for (int rank = 0; rank <= HIGHEST_RANK; rank++) {
            if (now - court.lateWith(mirror, rank) == minute) {
                return rank;
            }
        }
        return NOTHING;
    }

    public int jolt(int man, int rank, int what) {
        if (!isMan(man) || !isRank(rank) || !within(what, 3)) {
            return NO_JOLT;
        }
        int now = court.minute;
        int most = -FAR;
        int twice = 0;
        int never = 0;
        for (int m = 0; m < text.mirrors; m++) {
            if (text.ownerOf(m) == man && !court.isBroken(m, now)) {
                int later = court.lateWith(m, rank) - court.lateOf(m, now);
                most = Math.max(most, later);
                twice += Math.max(later, 0);
                never += Math.max(-later, 0);
            }
        }
        most = most == -FAR ? 0 : most;
        return what == 0 ? most : what == 1 ? twice : never;
    }

    // ---- what would be

    public int still(int room, int minute) {
        if (!isRoom(room) || !isPast(minute)) {
            return NONE;
        }
        forecast(LAST_MINUTE);
        int found = 0;
        for (int t = court.minute; t <= LAST_MINUTE; t++) {
            found |= showersOf(room, minute, t);
        }
        return found;
    }

    public int soonest(int room, int minute, int what) {
        if (!isRoom(room) || !isPast(minute) || !within(what, 2)) {
            return NONE;
        }
        forecast(LAST_MINUTE);
        for (int t = court.minute; t <= LAST_MINUTE; t++) {
            int showers = showersOf(room, minute, t);
            if (showers != 0) {
                return what == 0 ? t : firstOf(showers);
            }
        }
        return NOTHING;
    }

    public int view(int man, int room, int minute, int what) {
        if (!isMan(man) || !isRoom(room) || !isPast(minute) || !within(what, 2)) {
            return NONE;
        }
        forecast(LAST_MINUTE);
        countSteps(court.roomOf(man, court.minute), (1 << ROOMS) - 1);
        for (int t = court.minute; t <= LAST_MINUTE; t++) {
            int showers = showersOf(room, minute, t) & mirrorsInReach(t);
            if (showers != 0) {
                return what == 0 ? t : firstOf(showers);
            }
        }
        return NOTHING;
    }

    /** The mirrors, as bits, that hang where one can have come by then. */
    private int mirrorsInReach(int t) {
        int found = 0;
        for (int m = 0; m < text.mirrors; m++) {
            if (at(steps, maybe.hangOf(m, t)) <= t - court.minute) {
                found |= 1 << m;
            }
        }
        return found;
    }

    public int willBe(int man, int n) {
        if (!isMan(man) || !within(n, MINUTES)) {
            return NONE;
        }
        int end = Math.min(court.minute + n, LAST_MINUTE);
        forecast(end);
        return maybe.roomOf(man, end);
    }

    public int seen(int man, int n) {
        if (!isMan(man) || !within(n, MINUTES)) {
            return NONE;
        }
        int end = Math.min(court.minute + n, LAST_MINUTE);
        forecast(end);
        int times = 0;
        for (int t = court.minute; t <= end; t++) {
            times += Integer.bitCount(mirrorsWith(man, t));
        }
        return times;
    }

    public int turned(int man, int what) {
        if (!isMan(man) || !within(what, 2)) {
            return NONE;
        }
        forecast(LAST_MINUTE);
        int found = 0;
        for (int t = court.minute; t <= LAST_MINUTE; t++) {
            found |= mirrorsWith(man, t);
        }
        return what == 0 ? Integer.bitCount(found) : found;
    }

    private void forecast(int end) {
        maybe.copyOf(court);
        maybe.goTo(end);
    }

    /** The mirrors, as bits, that would show that room at that minute at minute t. */
    private int showersOf(int room, int minute, int t) {
        int found = 0;
        for (int m = 0; m < text.mirrors; m++) {
            if (maybe.showing(m, t) == minute && maybe.hangOf(m, minute) == room) {
                found |= 1 << m;
            }
        }
        return found;
    }

    /** The mirrors, as bits, that would show that man at minute t. */
    private int mirrorsWith(int man, int t) {
        int found = 0;
        for (int m = 0; m < text.mirrors; m++) {
            if (has(maybe.menShown(m, t), man)) {
                found |= 1 << m;
            }
        }
        return found;
    }

    public int odds(int mirror, int n, int s) {
        if (!isMirror(mirror) || !within(n, MINUTES) || s < 1 || s > MOST_SEEDS) {
            return NONE;
        }
        if (court.isBroken(mirror, court.minute)) {
            return s;
        }
        int end = Math.min(court.minute + n, LAST_MINUTE);
        int found = 0;
        for (int i = 0; i < s; i++) {
            if (breaksBy(mirror, text.seed + i, end)) {
                found++;
            }
        }
        return found;
    }

    private boolean breaksBy(int mirror, int seed, int end) {
        for (int t = court.minute + 1; t <= end; t++) {
            if (text.breaksAt(seed, t, mirror)) {
                return true;
            }
        }
        return false;
    }

    // ---- where to stand and by which way

    public int hidden(int room, int other, int what) {
        if (!isRoom(room) || !isRoom(other) || !within(what, 2)) {
            return NONE;
        }
        countSteps(other, court.darkRooms());
        int fewest = at(steps, room);
        if (fewest >= FAR) {
            return NOTHING;
        }
        return what == 0 ? fewest : fewest == 0 ? room : nextRoom(room, fewest - 1);
    }

    /** The first way out of the room that leads to where so many steps are left. */
    private int nextRoom(int room, int left) {
        for (int k = 1; k <= DOORS; k++) {
            int next = text.wayTo(room, k);
            if (next != NONE && at(steps, next) == left) {
                return next;
            }
        }
        return NOTHING;
    }

    /** How many doors each room is from that one, through the rooms (bits) alone; FAR if there is no way. */
    private void countSteps(int from, int through) {
        for (int room = 0; room < ROOMS; room++) {
            put(steps, room, room == from && has(through, room) ? 0 : FAR);
        }
        for (int round = 0; round < ROOMS; round++) {
            for (int door = 0; door < text.doors; door++) {
                int one = text.doorEnd(door, 0);
                int two = text.doorEnd(door, 1);
                if (has(through, one) && has(through, two)) {
                    put(steps, one, Math.min(at(steps, one), at(steps, two) + 1));
                    put(steps, two, Math.min(at(steps, two), at(steps, one) + 1));
                }
            }
        }
    }

    public int stand(int what) {
        if (!within(what, 2)) {
            return NONE;
        }
        int which = NOTHING;
        int most = NOTHING;
        for (int room = 0; room < text.rooms; room++) {
            int men = Integer.bitCount(court.menShownIn(room, court.minute));
            if (men > most) {
                most = men;
                which = room;
            }
        }
        return what == 0 ? which : most;
    }

    public int rests(int man, int other, int i) {
        if (!isMan(man) || !isMan(other) || man == other) {
            return NONE;
        }
        int ofOthers = ~(1 << man | 1 << other);
        for (int room = 0; room < text.rooms; room++) {
            put(worths, room, Integer.bitCount(court.menShownIn(room, court.minute) & ofOthers));
        }
        int found = 0;
        for (int one = 0; one < text.rooms; one++) {
            for (int two = 0; two < text.rooms; two++) {
                if (isRest(one, two)) {
                    if (found == i) {
                        return 10 * one + two;
                    }
                    found++;
                }
            }
        }
        return i == NONE ? found : NONE;
    }

    private boolean isRest(int one, int two) {
        for (int room = 0; room < text.rooms; room++) {
            if (worth(room, two) > worth(one, two) || worth(room, one) > worth(two, one)) {
                return false;
            }
        }
        return true;
    }

    private int worth(int mine, int his) {
        return at(worths, mine) - (mine == his ? 2 : 0);
    }

    // ---- where one was in the beginning

    public int tell(int mirror, int minute, int man, boolean there) {
        boolean full = knownSize >= MOST_TOLD;
        if (full || !isMirror(mirror) || !within(minute, TOLD_MINUTES) || !isMan(man)) {
            return NONE;
        }
        int from = knownSize * TOLD_SIZE;
        put(known, from, mirror);
        put(known, from + 1, minute);
        put(known, from + 2, man);
        put(known, from + 3, there ? 1 : 0);
        knownSize++;
        return knownSize - 1;
    }

    public int forget() {
        int size = knownSize;
        knownSize = 0;
        return size;
    }

    public int began(int man, int k, int i) {
        if (!isMan(man) || k < 0 || k > knownSize) {
            return NONE;
        }
        int found = 0;
        for (int room = 0; room < text.rooms; room++) {
            if (canHaveBegun(man, room, k)) {
                if (found == i) {
                    return room;
                }
                found++;
            }
        }
        return i == NONE ? found : NONE;
    }

    private boolean canHaveBegun(int man, int room, int k) {
        int end = 0;
        for (int j = 0; j < k; j++) {
            end = Math.max(end, at(known, j * TOLD_SIZE + 1));
        }
        maybe.begin(text);
        maybe.putMan(man, room);
        maybe.goTo(end);
        for (int j = 0; j < k; j++) {
            int from = j * TOLD_SIZE;
            boolean shows = has(maybe.menShown(at(known, from), at(known, from + 1)), at(known, from + 2));
            if (shows != (at(known, from + 3) == 1)) {
                return false;
            }
        }
        return true;
    }

    // ---- what is held

    public boolean hold(int slot) {
        if (!within(slot, SLOTS) || slots[slot] == null) {
            return false;
        }
        slots[slot].copyOf(court);
        held |= 1 << slot;
        return true;
    }

    public boolean restore(int slot) {
        if (!within(slot, SLOTS) || slots[slot] == null || !has(held, slot)) {
            return false;
        }
        court.copyOf(slots[slot]);
        past.clear();
        return true;
    }

    public int count(int what) {
        switch (what) {
            case 0:
                return text.rooms;
            case 1:
                return text.doors;
            case 2:
                return text.men;
            case 3:
                return text.mirrors;
            case 4:
                return court.minute;
            case 5:
                return court.brokenOnes();
            case 6:
                return court.turnedOnes();
            case 7:
                return tapeSize;
            case 8:
                return past.size;
            case 9:
                return knownSize;
            case 10:
                return Integer.bitCount(held);
            default:
                return NONE;
        }
    }

    // ---- tests of arguments

    private boolean isMan(int man) {
        return within(man, text.men);
    }

    private boolean isMirror(int mirror) {
        return within(mirror, text.mirrors);
    }

    private boolean isRoom(int room) {
        return within(room, text.rooms);
    }

    private boolean isPast(int minute) {
        return minute >= 0 && minute <= court.minute;
    }

    private static boolean isRank(int rank) {
        return rank >= 0 && rank <= HIGHEST_RANK;
    }

    private static boolean within(int i, int n) {
        return i >= 0 && i < n;
    }

    private static boolean has(int bits, int i) {
        return i >= 0 && i < 32 && (bits >>> i & 1) == 1;
    }

    private static int firstOf(int bits) {
        for (int i = 0; i < 32; i++) {
            if (has(bits, i)) {
                return i;
            }
        }
        return NONE;
    }

    // ---- rows: every index goes through these, so that none can leave its row

    private static int at(int[] row, int i) {
        return row != null && i >= 0 && i < row.length ? row[i] : 0;
    }

    private static long longAt(long[] row, int i) {
        return row != null && i >= 0 && i < row.length ? row[i] : 0;
    }

    private static void put(int[] row, int i, int value) {
        if (row != null && i >= 0 && i < row.length) {
            row[i] = value;
        }
    }

    private static void putLong(long[] row, int i, long value) {
        if (row != null && i >= 0 && i < row.length) {
            row[i] = value;
        }
    }

    private static void copy(int[] from, int start, int[] to, int end, int n) {
        if (from == null || to == null || start < 0 || end < 0 || n < 0) {
            return;
        }
        if (start <= from.length - n && end <= to.length - n) {
            System.arraycopy(from, start, to, end, n);
        }
    }

    /** The tokens of a tape, as far as they can be a text. */
    private static final class Scanner {
        private static final int MOST_TOKENS = 400;
        private static final int MOST_IFS = 4;
        private static final int MOST_BRACKETS = 6;
        private static final int LONGEST_NAME = 8;
        private static final int LONGEST_INT = 4;
        private static final int ANY = 1000;

        /** Kinds: a sign is its own byte, a word is WORD and its number in WORDS. */
        private static final int NO_TOKEN = 0;
        private static final int A_NAME = 1;
        private static final int AN_INT = 2;
        private static final int WORD = 200;
        private static final int W_ROOM = 200;
        private static final int W_DOOR = 201;
        private static final int W_MAN = 202;
        private static final int W_GOES = 203;
        private static final int W_MIRROR = 204;
        private static final int W_LATE = 205;
        private static final int W_BREAKS = 206;
        private static final int W_SEED = 207;
        private static final int W_IF = 208;
        private static final int W_THEN = 209;
        private static final int W_ELSE = 210;
        private static final int W_VARS = 211;
        private static final int WORD_COUNT = 17;
        private static final String SIGNS = ";=+-*/<()";
        private static final String WORDS =
                "room door man goes mirror late breaks seed if then else minute here rank number ways with ";
        /** How many of each TELL there may be. */
        private static final int[] MOST = {ROOMS, DOORS, MEN, ANY, MIRRORS, ANY, ANY, ANY};

        /** Parts of a LAW: ahead of =; the E of if, of <, of then; the E that may be the last. */
        private static final int AHEAD = 0;
        private static final int LEFT = 1;
        private static final int RIGHT = 2;
        private static final int CHOICE = 3;
        private static final int END = 4;

        private final long[] words = new long[WORD_COUNT];
        private final int[] kinds = new int[MOST_TOKENS];
        private final int[] places = new int[MOST_TOKENS];
        private final long[] values = new long[MOST_TOKENS];
        private int size;
        private int faultAt = NONE;
        private long value;
        private final int[] tells = new int[MOST.length];
        private int tellKind;
        private int spot;
        private int part;
        private boolean wantsUnit;
        private boolean fresh;
        private int brackets;
        private int ifs;

        private Scanner() {
            int from = 0;
            int word = 0;
            for (int i = 0; i < WORDS.length(); i++) {
                if (WORDS.charAt(i) == ' ') {
                    putLong(words, word, codeOfWord(from, i));
                    word++;
                    from = i + 1;
                }
            }
        }

        private static long codeOfWord(int from, int end) {
            long code = 0;
            for (int i = Math.max(from, 0); i < end && i < WORDS.length(); i++) {
                code = addLetter(code, WORDS.charAt(i));
            }
            return code;
        }

        private static long addLetter(long code, int letter) {
            return code * 32 + (letter - 'a' + 1);
        }

        /** 0, or SYNTAX or ROOM, whichever comes first. */
        private int scan(int[] tape, int length) {
            clear();
            int from = nextByte(tape, length, 0);
            for (int n = 0; n <= MOST_TOKENS && from < length; n++) {
                int end = tokenEnd(tape, length, from);
                int kind = kindOf(tape, from, end);
                if (!goesOn(kind)) {
                    return fail(SYNTAX, from);
                }
                if (n == MOST_TOKENS || tooMany()) {
                    return fail(ROOM, from);
                }
                add(kind, from);
                from = nextByte(tape, length, end);
            }
            return tellKind == NONE ? 0 : fail(SYNTAX, length);
        }

        private void clear() {
            size = 0;
            faultAt = NONE;
            tellKind = NONE;
            for (int i = 0; i < tells.length; i++) {
                put(tells, i, 0);
            }
        }

        private int fail(int fault, int place) {
            faultAt = place;
            return fault;
        }

        private void add(int kind, int place) {
            put(kinds, size, kind);
            put(places, size, place);
            putLong(values, size, value);
            size++;
        }

        private static int nextByte(int[] tape, int length, int from) {
            for (int i = from; i < length; i++) {
                if (!isBlank(at(tape, i))) {
                    return i;
                }
            }
            return length;
        }

        private static boolean isBlank(int c) {
            return c == 9 || c == 10 || c == 13 || c == 32;
        }

        private static boolean isLetter(int c) {
            return c >= 'a' && c <= 'z';
        }

        private static boolean isDigit(int c) {
            return c >= '0' && c <= '9';
        }

        private static int tokenEnd(int[] tape, int length, int from) {
            boolean letters = isLetter(at(tape, from));
            boolean digits = isDigit(at(tape, from));
            for (int i = from + 1; i < length; i++) {
                int c = at(tape, i);
                if (!(letters && isLetter(c) || digits && isDigit(c))) {
                    return i;
                }
            }
            return length;
        }

        private int kindOf(int[] tape, int from, int end) {
            int c = at(tape, from);
            value = 0;
            if (isLetter(c)) {
                return end - from > LONGEST_NAME ? NO_TOKEN : kindOfName(tape, from, end);
            }
            if (!isDigit(c)) {
                return SIGNS.indexOf((char) c) >= 0 ? c : NO_TOKEN;
            }
            if (end - from > LONGEST_INT) {
                return NO_TOKEN;
            }
            for (int i = from; i < end; i++) {
                value = value * 10 + (at(tape, i) - '0');
            }
            return AN_INT;
        }

        private int kindOfName(int[] tape, int from, int end) {
            for (int i = from; i < end; i++) {
                value = addLetter(value, at(tape, i));
            }
            for (int word = 0; word < WORD_COUNT; word++) {
                if (longAt(words, word) == value) {
                    return WORD + word;
                }
            }
            return A_NAME;
        }

        /** What stands behind the word of a TELL: N a NAME, I an INT, L a LAW with its end. */
        private static String shapeOf(int tellKind) {
            switch (tellKind) {
                case W_ROOM:
                    return "N;";
                case W_DOOR:
                    return "NN;";
                case W_MAN:
                    return "NIN;";
                case W_GOES:
                    return "NL";
                case W_MIRROR:
                    return "NNN;";
                case W_LATE:
                    return "L";
                default:
                    return "I;";
            }
        }

        /** Whether some text goes on with a token of that kind here. */
        private boolean goesOn(int kind) {
            if (tellKind == NONE) {
                return tellBegins(kind);
            }
            String shape = shapeOf(tellKind);
            char due = spot >= 0 && spot < shape.length() ? shape.charAt(spot) : ';';
            if (due == 'L') {
                return lawGoesOn(kind);
            }
            spot++;
            if (due == ';') {
                tellKind = NONE;
                return kind == ';';
            }
            return kind == (due == 'N' ? A_NAME : AN_INT);
        }

        private boolean tellBegins(int kind) {
            int which = kind - WORD;
            if (!within(which, MOST.length)) {
                return false;
            }
            put(tells, which, at(tells, which) + 1);
            tellKind = kind;
            spot = 0;
            part = AHEAD;
            brackets = 0;
            ifs = 0;
            return true;
        }

        private boolean tooMany() {
            int which = tellKind - WORD;
            boolean tooOften = within(which, MOST.length) && at(tells, which) > at(MOST, which);
            return tooOften || ifs > MOST_IFS || brackets > MOST_BRACKETS;
        }

        private boolean lawGoesOn(int kind) {
            if (part == AHEAD) {
                beginE(END);
                return kind == '=';
            }
            return wantsUnit ? unitBegins(kind) : unitEnded(kind);
        }

        private void beginE(int next) {
            part = next;
            wantsUnit = true;
            fresh = true;
        }

        private boolean unitBegins(int kind) {
            if (kind == W_IF && part == END && fresh) {
                ifs++;
                beginE(LEFT);
                return true;
            }
            fresh = false;
            if (kind == '(') {
                brackets++;
                return true;
            }
            wantsUnit = false;
            return kind == AN_INT || kind >= W_VARS;
        }

        private boolean unitEnded(int kind) {
            if (kind == '+' || kind == '-' || kind == '*' || kind == '/') {
                wantsUnit = true;
                return true;
            }
            if (kind == ')') {
                brackets--;
                return brackets >= 0;
            }
            return brackets == 0 && partEnds(kind);
        }

        private boolean partEnds(int kind) {
            switch (part) {
                case LEFT:
                    beginE(RIGHT);
                    return kind == '<';
                case RIGHT:
                    beginE(CHOICE);
                    return kind == W_THEN;
                case CHOICE:
                    beginE(END);
                    return kind == W_ELSE;
                default:
                    tellKind = NONE;
                    return kind == ';';
            }
        }
    }

    /** The laws of a text, as steps of a machine with a stack. */
    private static final class Laws {
        private static final int MOST_STEPS = 512;
        private static final int STACK = 64;

        private static final int PUSH = 0;
        private static final int VAR = 1;
        private static final int UNLESS_LESS = 2;
        private static final int RETURN = 3;

        private static final int MINUTE = 0;
        private static final int HERE = 1;
        private static final int RANK = 2;
        private static final int NUMBER = 3;
        private static final int WAYS = 4;
        private static final int WITH = 5;
        private static final int VARS = 6;

        /** Bindings: of all that waits; of + and -; of * and /. */
        private static final int ANY = 0;
        private static final int SUM = 1;
        private static final int PRODUCT = 2;

        private static final int STAY = 0;
        private static final int BY_RANK = 2;

        private final int[] codes = new int[MOST_STEPS];
        private final int[] operands = new int[MOST_STEPS];
        private int size;
        private final int[] waiting = new int[STACK];
        private int waitingSize;
        private final int[] stack = new int[STACK];
        private final int[] vars = new int[VARS];

        /** The laws that hold if none is told come first. */
        private void clear() {
            size = 0;
            emit(PUSH, 0);
            emit(RETURN, 0);
            emit(VAR, RANK);
            emit(RETURN, 0);
        }

        private void emit(int code, int operand) {
            put(codes, size, code);
            put(operands, size, operand);
            size++;
        }

        /** Takes the law that begins at the token =; answers the place behind its end. */
        private int compile(Scanner tokens, int from) {
            int branch = 0;
            waitingSize = 0;
            for (int i = from; i < tokens.size; i++) {
                int kind = at(tokens.kinds, i);
                if (kind == Scanner.AN_INT) {
                    emit(PUSH, (int) longAt(tokens.values, i));
                } else if (kind >= Scanner.W_VARS) {
                    emit(VAR, kind - Scanner.W_VARS);
                } else if (kind == '(') {
                    putOff(kind);
                } else if (isOperator(kind)) {
                    unwind(bindingOf(kind));
                    putOff(kind);
                } else {
                    unwind(ANY);
                    branch = endPart(kind, branch);
                }
                if (kind == ';') {
                    return i + 1;
                }
            }
            return tokens.size;
        }

        private static boolean isOperator(int kind) {
            return kind == '+' || kind == '-' || kind == '*' || kind == '/';
        }

        private void putOff(int kind) {
            put(waiting, waitingSize, kind);
            waitingSize++;
        }

        /** Answers where the branch stands whose aim is not known yet. */
        private int endPart(int kind, int branch) {
            if (kind == ')') {
                waitingSize = Math.max(waitingSize - 1, 0);
            } else if (kind == Scanner.W_THEN) {
                emit(UNLESS_LESS, 0);
                return size - 1;
            } else if (kind == Scanner.W_ELSE) {
                emit(RETURN, 0);
                put(operands, branch, size);
            } else if (kind == ';') {
                emit(RETURN, 0);
            }
            return branch;
        }

        private static int bindingOf(int kind) {
            return kind == '*' || kind == '/' ? PRODUCT : SUM;
        }

        /** Emits what waits and binds at least so, back to the last open bracket. */
        private void unwind(int binding) {
            for (int i = waitingSize - 1; i >= 0; i--) {
                int kind = at(waiting, i);
                if (kind == '(' || bindingOf(kind) < binding) {
                    return;
                }
                emit(kind, 0);
                waitingSize = i;
            }
        }

        private void setVars(int minute, int here, int rank, int number, int ways, int with) {
            put(vars, MINUTE, minute);
            put(vars, HERE, here);
            put(vars, RANK, rank);
            put(vars, NUMBER, number);
            put(vars, WAYS, ways);
            put(vars, WITH, with);
        }

        /** What the law that begins there says of the vars. */
        private int valueOf(int law) {
            int top = 0;
            for (int i = law; i < size; i++) {
                int code = at(codes, i);
                int operand = at(operands, i);
                if (code == RETURN) {
                    return at(stack, top - 1);
                }
                if (code == PUSH || code == VAR) {
                    put(stack, top, code == PUSH ? operand : at(vars, operand));
                    top++;
                    continue;
                }
                int right = at(stack, top - 1);
                int left = at(stack, top - 2);
                if (code == UNLESS_LESS) {
                    top -= 2;
                    // branches lead ahead alone, so the loop has an end
                    i = left < right ? i : Math.max(i, operand - 1);
                    continue;
                }
                if (code == '/' && right == 0) {
                    return 0;
                }
                top--;
                put(stack, top - 1, reckon(code, left, right));
            }
            return 0;
        }

        private static int reckon(int code, int left, int right) {
            switch (code) {
                case '+':
                    return left + right;
                case '-':
                    return left - right;
                case '*':
                    return left * right;
                default:
                    return right == 0 ? 0 : left / right;
            }
        }
    }

    /** What a text tells. */
    private static final class Text {
        private static final int MOST_NAMES = ROOMS + MEN + MIRRORS;
        private static final int A_ROOM = 0;
        private static final int A_MAN = 1;
        private static final int A_MIRROR = 2;
        private static final int SORT = 100;
        private static final int MOST_BREAKS = 100;
        private static final int MOST_SEED = 9999;

        private int rooms;
        private int doors;
        private int men;
        private int mirrors;
        private int breaks;
        private int seed;
        private int late;
        private final int[] doorEnds = new int[DOORS * 2];
        private final int[] firstRanks = new int[MEN];
        private final int[] firstRooms = new int[MEN];
        private final int[] goings = new int[MEN];
        private final int[] firstHangs = new int[MIRRORS];
        private final int[] owners = new int[MIRRORS];
        private final long[] names = new long[MOST_NAMES];
        private final int[] meanings = new int[MOST_NAMES];
        private int nameCount;
        private final Laws laws = new Laws();
        private int fault;
        private int faultAt = NONE;

        private Text() {
            clear();
        }

        private void clear() {
            rooms = 0;
            doors = 0;
            men = 0;
            mirrors = 0;
            breaks = 0;
            seed = 0;
            late = Laws.BY_RANK;
            nameCount = 0;
            fault = 0;
            faultAt = NONE;
            laws.clear();
        }

        /** 0, or the first fault of TWICE, NAME, WRONG in tokens that are a text. */
        private int build(Scanner tokens) {
            clear();
            int i = 0;
            for (int n = 0; n < tokens.size && i < tokens.size && fault == 0; n++) {
                i = take(tokens, i);
            }
            return fault;
        }

        /** Takes the TELL whose word stands there; answers the place behind it. */
        private int take(Scanner tokens, int i) {
            switch (at(tokens.kinds, i)) {
                case Scanner.W_ROOM:
                    declare(tokens, i + 1, A_ROOM, rooms);
                    rooms++;
                    return i + 3;
                case Scanner.W_DOOR:
                    takeDoor(tokens, i);
                    return i + 4;
                case Scanner.W_MAN:
                    takeMan(tokens, i);
                    return i + 5;
                case Scanner.W_GOES:
                    put(goings, named(tokens, i + 1, A_MAN), laws.size);
                    return laws.compile(tokens, i + 2);
                case Scanner.W_MIRROR:
                    takeMirror(tokens, i);
                    return i + 5;
                case Scanner.W_LATE:
                    late = laws.size;
                    return laws.compile(tokens, i + 1);
                case Scanner.W_BREAKS:
                    breaks = number(tokens, i + 1, MOST_BREAKS);
                    return i + 3;
                default:
                    seed = number(tokens, i + 1, MOST_SEED);
                    return i + 3;
            }
        }

        private void takeDoor(Scanner tokens, int i) {
            int one = named(tokens, i + 1, A_ROOM);
            int two = named(tokens, i + 2, A_ROOM);
            if (one == two) {
                fail(TWICE, tokens, i + 2);
            }
            put(doorEnds, doors * 2, one);
            put(doorEnds, doors * 2 + 1, two);
            doors++;
        }

        private void takeMan(Scanner tokens, int i) {
            declare(tokens, i + 1, A_MAN, men);
            put(firstRanks, men, number(tokens, i + 2, HIGHEST_RANK));
            put(firstRooms, men, named(tokens, i + 3, A_ROOM));
            put(goings, men, Laws.STAY);
            men++;
        }

        private void takeMirror(Scanner tokens, int i) {
            declare(tokens, i + 1, A_MIRROR, mirrors);
            put(firstHangs, mirrors, named(tokens, i + 2, A_ROOM));
            put(owners, mirrors, named(tokens, i + 3, A_MAN));
            mirrors++;
        }

        /** The first fault stays: the tokens are looked at in their order. */
        private void fail(int which, Scanner tokens, int i) {
            if (fault == 0) {
                fault = which;
                faultAt = at(tokens.places, i);
            }
        }

        private void declare(Scanner tokens, int i, int sort, int number) {
            long name = longAt(tokens.values, i);
            if (meaningOf(name) != NONE) {
                fail(TWICE, tokens, i);
                return;
            }
            putLong(names, nameCount, name);
            put(meanings, nameCount, sort * SORT + number);
            nameCount++;
        }

        private int meaningOf(long name) {
            for (int i = 0; i < nameCount; i++) {
                if (longAt(names, i) == name) {
                    return at(meanings, i);
                }
            }
            return NONE;
        }

        private int named(Scanner tokens, int i, int sort) {
            int meaning = meaningOf(longAt(tokens.values, i));
            if (meaning >= sort * SORT && meaning < sort * SORT + SORT) {
                return meaning - sort * SORT;
            }
            fail(NAME, tokens, i);
            return NONE;
        }

        private int number(Scanner tokens, int i, int most) {
            int number = (int) longAt(tokens.values, i);
            if (number > most) {
                fail(WRONG, tokens, i);
            }
            return number;
        }

        private int ownerOf(int mirror) {
            return at(owners, mirror);
        }

        private int doorEnd(int door, int end) {
            return at(doorEnds, door * 2 + end);
        }

        private int waysOf(int room) {
            int ways = 0;
            for (int door = 0; door < doors; door++) {
                if (at(doorEnds, door * 2) == room || at(doorEnds, door * 2 + 1) == room) {
                    ways++;
                }
            }
            return ways;
        }

        /** The room behind the k-th door of a room; NONE if there is no such door. */
        private int wayTo(int room, int k) {
            int ways = 0;
            for (int door = 0; door < doors; door++) {
                int one = at(doorEnds, door * 2);
                int two = at(doorEnds, door * 2 + 1);
                if (one == room || two == room) {
                    ways++;
                    if (ways == k) {
                        return one == room ? two : one;
                    }
                }
            }
            return NONE;
        }

        private boolean breaksAt(int seed, int minute, int mirror) {
            return lot(100, seed, 8 * minute + mirror) < breaks;
        }

        private static int lot(int n, int seed, int which) {
            int h = mixed(mixed(seed, 43), which);
            return n == 0 ? 0 : (h >>> 1) % n;
        }

        private static int mixed(int h, int with) {
            int product = (h ^ with) * 1103515245 + 12345;
            return product ^ product >>> 15;
        }
    }

    /** All that is and was, minute by minute; rows behind the minute that is now hold nothing. */
    private static final class Court {
        /** The numbers of one minute's row and of when each mirror broke. */
        private static final int KEPT = 2 + 2 * MEN + 2 * MIRRORS;

        private Text text;
        private int minute;
        private final int[] rooms = new int[MINUTES * MEN];
        private final int[] ranks = new int[MINUTES * MEN];
        private final int[] hangs = new int[MINUTES * MIRRORS];
        private final int[] lates = new int[MINUTES * MIRRORS];
        private final int[] walls = new int[MINUTES];
        private final int[] brokenAt = new int[MIRRORS];
        /** The minute that each mirror showed as it broke. */
        private final int[] frozen = new int[MIRRORS];

        private Court(Text told) {
            text = told;
            begin(told);
        }

        private void begin(Text told) {
            text = told;
            minute = 0;
            copy(told.firstRooms, 0, rooms, 0, MEN);
            copy(told.firstRanks, 0, ranks, 0, MEN);
            copy(told.firstHangs, 0, hangs, 0, MIRRORS);
            put(walls, 0, 0);
            for (int m = 0; m < MIRRORS; m++) {
                put(brokenAt, m, NEVER);
                put(frozen, m, NOTHING);
            }
            setLates();
        }

        private void copyOf(Court from) {
            int rows = from.minute + 1;
            text = from.text;
            minute = from.minute;
            copy(from.rooms, 0, rooms, 0, rows * MEN);
            copy(from.ranks, 0, ranks, 0, rows * MEN);
            copy(from.hangs, 0, hangs, 0, rows * MIRRORS);
            copy(from.lates, 0, lates, 0, rows * MIRRORS);
            copy(from.walls, 0, walls, 0, rows);
            copy(from.brokenAt, 0, brokenAt, 0, MIRRORS);
            copy(from.frozen, 0, frozen, 0, MIRRORS);
        }

        /**
         * Rows ahead of now never change again, nor what a broken mirror showed as it broke: so now's row and when each
         * mirror broke are enough to go back to it.
         */
        private void keepIn(int[] into, int from) {
            put(into, from, minute);
            put(into, from + 1, at(walls, minute));
            int next = from + 2;
            copy(rooms, minute * MEN, into, next, MEN);
            copy(ranks, minute * MEN, into, next + MEN, MEN);
            next += 2 * MEN;
            copy(hangs, minute * MIRRORS, into, next, MIRRORS);
            copy(brokenAt, 0, into, next + MIRRORS, MIRRORS);
        }

        private void goBackTo(int[] kept, int from) {
            minute = at(kept, from);
            put(walls, minute, at(kept, from + 1));
            int next = from + 2;
            copy(kept, next, rooms, minute * MEN, MEN);
            copy(kept, next + MEN, ranks, minute * MEN, MEN);
            next += 2 * MEN;
            copy(kept, next, hangs, minute * MIRRORS, MIRRORS);
            copy(kept, next + MIRRORS, brokenAt, 0, MIRRORS);
            setLates();
        }

        // -- what is and was

        private int roomOf(int man, int t) {
            return at(rooms, t * MEN + man);
        }

        private int rankOf(int man, int t) {
            return at(ranks, t * MEN + man);
        }

        private int hangOf(int mirror, int t) {
            return at(hangs, t * MIRRORS + mirror);
        }

        private int lateOf(int mirror, int t) {
            return at(lates, t * MIRRORS + mirror);
        }

        private boolean isTurned(int mirror, int t) {
            return has(at(walls, t), mirror);
        }

        private boolean isBroken(int mirror, int t) {
            return at(brokenAt, mirror) <= t;
        }

        private int turnedOnes() {
            return at(walls, minute);
        }

        private int brokenOnes() {
            int found = 0;
            for (int m = 0; m < text.mirrors; m++) {
                found |= isBroken(m, minute) ? 1 << m : 0;
            }
            return found;
        }

        /** The men, as bits, who were in a room. */
        private int menIn(int room, int t) {
            int found = 0;
            for (int man = 0; man < text.men; man++) {
                found |= at(rooms, t * MEN + man) == room ? 1 << man : 0;
            }
            return found;
        }

        // -- what mirrors show

        private int showing(int mirror, int t) {
            int shows = isBroken(mirror, t) ? at(frozen, mirror) : t - lateOf(mirror, t);
            if (shows < 0 || isTurned(mirror, t) || isTurned(mirror, shows)) {
                return NOTHING;
            }
            return shows;
        }

        private int roomShown(int mirror, int t) {
            int shows = showing(mirror, t);
            return shows < 0 ? NOTHING : hangOf(mirror, shows);
        }

        private int menShown(int mirror, int t) {
            int shows = showing(mirror, t);
            return shows < 0 ? 0 : menIn(hangOf(mirror, shows), shows);
        }

        /** The men, as bits, whom the mirrors that hang in a room show. */
        private int menShownIn(int room, int t) {
            int found = 0;
            for (int m = 0; m < text.mirrors; m++) {
                found |= hangOf(m, t) == room ? menShown(m, t) : 0;
            }
            return found;
        }

        /** What a mirror shows in another one that shows a minute; NOTHING if it is not seen there. */
        private int seenIn(int outer, int minuteShown, int inner) {
            if (minuteShown < 0 || inner == outer || inner >= text.mirrors) {
                return NOTHING;
            }
            if (hangOf(inner, minuteShown) != hangOf(outer, minuteShown)) {
                return NOTHING;
            }
            return showing(inner, minuteShown);
        }

        /** The rooms, as bits, in which no mirror hangs that is not turned and not broken. */
        private int darkRooms() {
            int dark = (1 << ROOMS) - 1;
            for (int m = 0; m < text.mirrors; m++) {
                if (!isTurned(m, minute) && !isBroken(m, minute)) {
                    dark &= ~(1 << hangOf(m, minute));
                }
            }
            return dark;
        }

        // -- what is done now

        private void putMan(int man, int room) {
            put(rooms, minute * MEN + man, room);
            setLates();
        }

        private void putRank(int man, int rank) {
            put(ranks, minute * MEN + man, rank);
            setLates();
        }

        private void putMirror(int mirror, int room) {
            put(hangs, minute * MIRRORS + mirror, room);
            setLates();
        }

        private void putWall(int mirror, boolean wall) {
            int others = at(walls, minute) & ~(1 << mirror);
            put(walls, minute, others | (wall ? 1 << mirror : 0));
        }

        private void breakNow(int mirror) {
            put(frozen, mirror, showing(mirror, minute));
            put(brokenAt, mirror, minute);
        }

        private void setLates() {
            for (int m = 0; m < text.mirrors; m++) {
                int rank = rankOf(text.ownerOf(m), minute);
                put(lates, minute * MIRRORS + m, lateWith(m, rank));
            }
        }

        /** How late a mirror would be now if its owner had that rank. */
        private int lateWith(int mirror, int rank) {
            int here = hangOf(mirror, minute);
            int with = Integer.bitCount(menIn(here, minute));
            text.laws.setVars(minute, here, rank, mirror, text.waysOf(here), with);
            int late = text.laws.valueOf(text.late);
            return Math.max(0, Math.min(late, LATEST));
        }

        // -- minutes that go by

        private void goTo(int end) {
            int first = minute;
            for (int t = first; t < end && t < LAST_MINUTE; t++) {
                moveMen();
                setLates();
                for (int m = 0; m < text.mirrors; m++) {
                    if (!isBroken(m, minute) && text.breaksAt(text.seed, minute, m)) {
                        breakNow(m);
                    }
                }
            }
        }

        private void moveMen() {
            int next = minute + 1;
            copy(ranks, minute * MEN, ranks, next * MEN, MEN);
            copy(hangs, minute * MIRRORS, hangs, next * MIRRORS, MIRRORS);
            put(walls, next, at(walls, minute));
            for (int man = 0; man < text.men; man++) {
                put(rooms, next * MEN + man, roomAfter(man));
            }
            minute = next;
        }

        private int roomAfter(int man) {
            int here = roomOf(man, minute);
            int ways = text.waysOf(here);
            int with = Integer.bitCount(menIn(here, minute)) - 1;
            text.laws.setVars(minute, here, rankOf(man, minute), man, ways, with);
            int value = text.laws.valueOf(at(text.goings, man));
            int door = ways > 0 ? value % (ways + 1) : 0;
            return door > 0 ? text.wayTo(here, door) : here;
        }
    }

    /** The last things done, so that they can be undone. */
    private static final class Past {
        private final int[] kept = new int[UNDONE * Court.KEPT];
        private int first;
        private int size;

        private void clear() {
            size = 0;
        }

        private void keep(Court court) {
            if (size == UNDONE) {
                first = (first + 1) % UNDONE;
                size--;
            }
            court.keepIn(kept, (first + size) % UNDONE * Court.KEPT);
            size++;
        }

        private boolean takeBack(Court court) {
            if (size == 0) {
                return false;
            }
            size--;
            court.goBackTo(kept, (first + size) % UNDONE * Court.KEPT);
            return true;
        }
    }
}
