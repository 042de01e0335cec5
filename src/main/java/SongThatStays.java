/**
 * An office in which songs get stuck in heads. What stands, what is imagined and what was kept as
 * the image are three offices made once, so that no call makes an object.
 */
public final class SongThatStays {
    private static final int NONE = -9;
    private static final int ANY = -1;
    private static final int ROW_NONE = 9;

    private static final int NOBODY = -1;
    private static final int OTHER = -2;
    private static final int STATE = -3;
    private static final int BELOW = -4;
    private static final int ABOVE = -6;

    private static final int ROOMS = 5;
    private static final int MOST_DOORS = 8;
    private static final int MOST_SONGS = 5;
    private static final int MOST_HEADS = 6;
    private static final int MOST_LETTERS = 96;
    private static final int MOST_LETTER = 255;
    private static final int MOST_LENGTH = 9;
    private static final int MOST_PULL = 9;
    private static final int MOST_STRENGTH = 60;
    private static final int MOST_LOUD = 20;
    private static final int LAST_HOUR = 999;
    private static final int MIND_HOURS = 60;
    private static final int SEED_HOURS = 40;
    private static final int WITHOUT_SIGN = 0x7fffffff;
    private static final int SONG_KINDS = 6;
    private static final int NO_REMEDY = 3;

    private final Office now = new Office();
    private final Office mind = new Office();
    private final Office kept = new Office();
    private boolean isKept = false;
    private final Text text = new Text();
    private final int[] told = new int[MOST_HEADS];
    private int toldNumber = 0;
    private final int[] refusals = new int[7];

    public SongThatStays() {
    }

    // ---- the office as it stands ----

    public int letter(int c) {
        int outside = outside(c, 0, MOST_LETTER);
        if (outside != 0) {
            return refuse(outside);
        }
        if (text.isFull()) {
            return refuse(ABOVE);
        }
        text.add(c);
        return text.number;
    }

    public int office() {
        int fault = text.faultPlace();
        int answer = fault == NONE ? obeyAll() : -1000 - fault;
        text.number = 0;
        return answer;
    }

    public int song(int song, int what) {
        if (!now.songs.has(song)) {
            return refuse(NOBODY);
        }
        switch (what) {
            case 0: return at(now.songs.kind, song);
            case 1: return at(now.songs.pull, song);
            case 2: return at(now.songs.length, song);
            case 3: return now.songs.fresh(song);
            case 4: return now.heads.holders(song);
            default: return refuse(OTHER);
        }
    }

    public int head(int head, int what) {
        if (!now.heads.has(head)) {
            return refuse(NOBODY);
        }
        switch (what) {
            case 0: return at(now.heads.kind, head);
            case 1: return at(now.heads.place, head);
            case 2: return at(now.heads.resist, head);
            case 3: return at(now.heads.held, head);
            case 4: return at(now.heads.strength, head);
            case 5: return at(now.heads.gum, head);
            case 6: return now.heads.bar(head);
            case 7: return now.heads.hums(head, now.loud, now.hour) ? 1 : 0;
            default: return refuse(OTHER);
        }
    }

    public int near(int head) {
        if (!now.heads.has(head)) {
            return refuse(NOBODY);
        }
        return now.nearBits(head);
    }

    public int door(int door) {
        if (!now.doors.has(door)) {
            return refuse(NOBODY);
        }
        return now.doors.turn(door);
    }

    public int go(int head, int room) {
        if (!now.heads.has(head) || !isRoom(room)) {
            return refuse(NOBODY);
        }
        int before = at(now.heads.place, head);
        put(now.heads.place, head, room);
        return before;
    }

    public int get(int head, int song) {
        if (!now.heads.has(head) || song != ANY && !now.songs.has(song)) {
            return refuse(NOBODY);
        }
        int before = at(now.heads.held, head);
        now.give(head, song);
        return before;
    }

    public int remedy(int head, int what) {
        if (!now.heads.has(head)) {
            return refuse(NOBODY);
        }
        if (what < 0 || what >= NO_REMEDY) {
            return refuse(OTHER);
        }
        if (what != Heads.GUM && !now.heads.hasSong(head)) {
            return refuse(STATE);
        }
        now.heads.treat(head, what);
        return at(now.heads.strength, head);
    }

    public int loud(int v) {
        int outside = outside(v, 1, MOST_LOUD);
        if (outside != 0) {
            return refuse(outside);
        }
        int before = now.loud;
        now.loud = v;
        return before;
    }

    public int hour() {
        if (now.hour >= LAST_HOUR) {
            return refuse(ABOVE);
        }
        return now.passHour();
    }

    // ---- in mind ----

    public int hold(int head, int n, int what) {
        int refusal = headAndHours(head, n);
        if (refusal == 0 && isNeither(what)) {
            refusal = OTHER;
        }
        if (refusal != 0) {
            return refuse(refusal);
        }
        imagine(n);
        return what == 0 ? at(mind.heads.held, head) : at(mind.heads.strength, head);
    }

    public int have(int song, int n) {
        int refusal = songAndHours(song, n);
        if (refusal != 0) {
            return refuse(refusal);
        }
        imagine(n);
        return mind.heads.holders(song);
    }

    public int takes(int head, int song) {
        if (!now.heads.has(head) || !now.songs.has(song)) {
            return refuse(NOBODY);
        }
        mind.takeAs(now);
        for (int n = 0; n <= MIND_HOURS; n++) {
            if (at(mind.heads.held, head) == song) {
                return n;
            }
            mind.passHour();
        }
        return NONE;
    }

    public int still() {
        mind.takeAs(now);
        for (int n = 0; n <= MIND_HOURS; n++) {
            if (mind.heads.holders(ANY) == 0) {
                return n;
            }
            mind.passHour();
        }
        return NONE;
    }

    public int most(int song, int n, int what) {
        int refusal = songAndHours(song, n);
        if (refusal == 0 && isNeither(what)) {
            refusal = OTHER;
        }
        if (refusal != 0) {
            return refuse(refusal);
        }
        mind.takeAs(now);
        int greatest = mind.heads.holders(song);
        int when = 0;
        for (int i = 1; i <= n; i++) {
            mind.passHour();
            int holders = mind.heads.holders(song);
            if (holders > greatest) {
                greatest = holders;
                when = i;
            }
        }
        return what == 0 ? when : greatest;
    }

    public int lasts(int n) {
        int outside = outside(n, 0, MIND_HOURS);
        if (outside != 0) {
            return refuse(outside);
        }
        imagine(n);
        int greatest = 0;
        int lasting = NONE;
        for (int song = 0; song < mind.songs.number; song++) {
            int holders = mind.heads.holders(song);
            if (holders > greatest) {
                greatest = holders;
                lasting = song;
            }
        }
        return lasting;
    }

    public int from(int head, int n) {
        int refusal = headAndHours(head, n);
        if (refusal != 0) {
            return refuse(refusal);
        }
        imagine(n);
        return at(mind.heads.giver, head);
    }

    public int first(int head, int n) {
        int refusal = headAndHours(head, n);
        if (refusal != 0) {
            return refuse(refusal);
        }
        imagine(n);
        return at(mind.heads.origin, head);
    }

    // ---- how to be rid of a song ----

    public int rid(int head, int what) {
        if (!now.heads.has(head)) {
            return refuse(NOBODY);
        }
        if (isNeither(what)) {
            return refuse(OTHER);
        }
        if (!now.heads.hasSong(head)) {
            return refuse(STATE);
        }
        int least = MIND_HOURS + 1;
        int best = NONE;
        for (int remedy = 0; remedy <= NO_REMEDY; remedy++) {
            mind.takeAs(now);
            mind.heads.treat(head, remedy);
            int hours = hoursUntilRid(head);
            if (hours < least) {
                least = hours;
                best = remedy;
            }
        }
        return what == 0 || best == NONE ? best : least;
    }

    public int instead(int head) {
        if (!now.heads.has(head)) {
            return refuse(NOBODY);
        }
        if (!now.heads.hasSong(head)) {
            return refuse(STATE);
        }
        int own = at(now.heads.held, head);
        mind.takeAs(now);
        int least = hoursUntilRid(head);
        int best = NONE;
        for (int song = 0; song < now.songs.number; song++) {
            if (song != own) {
                mind.takeAs(now);
                mind.give(head, song);
                int hours = hoursUntilRid(head);
                if (hours < least) {
                    least = hours;
                    best = song;
                }
            }
        }
        return best;
    }

    // ---- plans ----

    public int shut(int n) {
        int outside = outside(n, 0, MIND_HOURS);
        if (outside != 0) {
            return refuse(outside);
        }
        imagine(n);
        int least = mind.heads.holders(ANY);
        int best = NONE;
        for (int door = 0; door < now.doors.number; door++) {
            if (now.doors.isOpen(door)) {
                mind.takeAs(now);
                mind.doors.turn(door);
                mind.passHours(n);
                int holders = mind.heads.holders(ANY);
                if (holders < least) {
                    least = holders;
                    best = door;
                }
            }
        }
        return best;
    }

    public int seats(int n) {
        int outside = outside(n, 0, MIND_HOURS);
        if (outside != 0) {
            return refuse(outside);
        }
        imagine(n);
        int least = mind.heads.holders(ANY);
        int best = NONE;
        for (int one = 0; one < now.heads.number; one++) {
            for (int other = one + 1; other < now.heads.number; other++) {
                mind.takeAs(now);
                mind.heads.changePlaces(one, other);
                mind.passHours(n);
                int holders = mind.heads.holders(ANY);
                if (holders < least) {
                    least = holders;
                    best = 10 * one + other;
                }
            }
        }
        return best;
    }

    public int write(int length, int n, int what) {
        int refusal = lengthAndHours(length, n);
        if (refusal == 0 && now.songs.isFull()) {
            refusal = ABOVE;
        }
        if (refusal == 0 && isNeither(what)) {
            refusal = OTHER;
        }
        if (refusal == 0 && now.heads.number == 0) {
            refusal = STATE;
        }
        if (refusal != 0) {
            return refuse(refusal);
        }
        int greatest = -1;
        int best = NONE;
        for (int kind = 0; kind < SONG_KINDS; kind++) {
            for (int pull = 0; pull <= MOST_PULL; pull++) {
                int holders = holdersIfWritten(kind, pull, length, n);
                if (holders > greatest) {
                    greatest = holders;
                    best = 10 * kind + pull;
                }
            }
        }
        return what == 0 ? best : greatest;
    }

    // ---- told hours ----

    public int row(int v) {
        int outside = outside(v, 0, ROW_NONE);
        if (outside != 0) {
            return refuse(outside);
        }
        if (toldNumber >= MOST_HEADS) {
            return refuse(ABOVE);
        }
        put(told, toldNumber, v);
        toldNumber++;
        return toldNumber;
    }

    public int otherwise(int n, int what) {
        int refusal = outside(n, 0, MIND_HOURS);
        if (refusal == 0 && isNeither(what)) {
            refusal = OTHER;
        }
        if (refusal == 0 && toldNumber != now.heads.number) {
            refusal = STATE;
        }
        if (refusal != 0) {
            return refuse(refusal);
        }
        int ways = 0;
        int earliest = NONE;
        for (int head = 0; head < now.heads.number; head++) {
            // The way beyond the last song is that of none, which stands last among a head's ways.
            for (int way = 0; way <= now.songs.number; way++) {
                int song = way < now.songs.number ? way : NONE;
                if (song != at(now.heads.held, head) && leadsToTold(head, song, n)) {
                    ways++;
                    if (earliest == NONE) {
                        earliest = 10 * head + inRow(song);
                    }
                }
            }
        }
        return what == 0 ? ways : earliest;
    }

    public int judge() {
        int shorter = Math.min(toldNumber, now.heads.number);
        int unlike = unlikeTold(now.heads, shorter);
        boolean isAsLong = toldNumber == now.heads.number;
        toldNumber = 0;
        if (unlike != NONE || isAsLong) {
            return unlike;
        }
        return shorter;
    }

    public int seeds(int n, int z) {
        int outside = outside(n, 1, SEED_HOURS);
        if (outside != 0) {
            return refuse(outside);
        }
        mind.takeAs(now);
        int seed = z;
        for (int i = 0; i < n; i++) {
            for (int head = 0; head < mind.heads.number; head++) {
                seed = seed * 1664525 + 1013904223;
                put(mind.heads.place, head, (seed & WITHOUT_SIGN) / 256 % ROOMS);
            }
            mind.passHour();
        }
        return mind.heads.holders(ANY);
    }

    // ---- the image, and what there is ----

    public int image() {
        kept.takeAs(now);
        isKept = true;
        return now.hour;
    }

    public int on() {
        if (!isKept) {
            return refuse(STATE);
        }
        now.takeAs(kept);
        return now.hour;
    }

    public int count(int what) {
        switch (what) {
            case 0: return now.heads.number;
            case 1: return now.songs.number;
            case 2: return now.doors.number;
            case 3: return now.doors.openOnes();
            case 4: return now.hour;
            case 5: return now.loud;
            case 6: return now.heads.holders(ANY);
            case 7: return now.heads.allStrength();
            case 8: return toldNumber;
            case 9: return text.number;
            default: return what >= 11 && what <= 16 ? at(refusals, what - 10) : NONE;
        }
    }

    // ---- refusals ----

    private int refuse(int refusal) {
        put(refusals, -refusal, at(refusals, -refusal) + 1);
        return refusal;
    }

    private static int outside(int v, int least, int greatest) {
        if (v < least) {
            return BELOW;
        }
        return v > greatest ? ABOVE : 0;
    }

    private static boolean isNeither(int what) {
        return what != 0 && what != 1;
    }

    private static boolean isRoom(int room) {
        return room >= 0 && room < ROOMS;
    }

    private int headAndHours(int head, int n) {
        return now.heads.has(head) ? outside(n, 0, MIND_HOURS) : NOBODY;
    }

    private int songAndHours(int song, int n) {
        return song == ANY || now.songs.has(song) ? outside(n, 0, MIND_HOURS) : NOBODY;
    }

    private static int lengthAndHours(int length, int n) {
        if (length < 1 || n < 0) {
            return BELOW;
        }
        return length > MOST_LENGTH || n > MIND_HOURS ? ABOVE : 0;
    }

    // ---- places looked at before they are used ----

    private static int at(int[] cells, int place) {
        return place >= 0 && place < cells.length ? cells[place] : NONE;
    }

    private static void put(int[] cells, int place, int value) {
        if (place >= 0 && place < cells.length) {
            cells[place] = value;
        }
    }

    private static void copy(int[] source, int[] target) {
        System.arraycopy(source, 0, target, 0, Math.min(source.length, target.length));
    }

    // ---- what the calls share ----

    private void imagine(int n) {
        mind.takeAs(now);
        mind.passHours(n);
    }

    /** From how all is in mind; one hour more than may be imagined stands for never. */
    private int hoursUntilRid(int head) {
        for (int n = 0; n <= MIND_HOURS; n++) {
            if (!mind.heads.hasSong(head)) {
                return n;
            }
            mind.passHour();
        }
        return MIND_HOURS + 1;
    }

    private int holdersIfWritten(int kind, int pull, int length, int n) {
        mind.takeAs(now);
        int song = mind.songs.number;
        mind.songs.add(kind, pull, length);
        mind.give(0, song);
        mind.passHours(n);
        return mind.heads.holders(song);
    }

    private boolean leadsToTold(int head, int song, int n) {
        mind.takeAs(now);
        mind.give(head, song);
        mind.passHours(n);
        return unlikeTold(mind.heads, toldNumber) == NONE;
    }

    private int unlikeTold(Heads heads, int number) {
        for (int head = 0; head < number; head++) {
            if (at(told, head) != inRow(at(heads.held, head))) {
                return head;
            }
        }
        return NONE;
    }

    private static int inRow(int song) {
        return song == NONE ? ROW_NONE : song;
    }

    /** The letters have no fault of the first kind; they are obeyed in mind, so that a fault leaves all as it is. */
    private int obeyAll() {
        mind.takeAs(now);
        int place = 0;
        int statements = 0;
        while (place < text.number && statements < MOST_LETTERS) {
            if (!obey(place)) {
                return -2000 - place;
            }
            place = text.behindStatement(place);
            statements++;
        }
        now.takeAs(mind);
        return statements;
    }

    private boolean obey(int place) {
        switch (text.sign(place)) {
            case 'd': return mind.doors.add(text.digit(place + 1), text.digit(place + 2));
            case 's': return mind.songs.add(text.kind(place), text.digit(place + 2), text.digit(place + 3));
            case 'h': return mind.heads.add(text.kind(place), text.digit(place + 2), text.digit(place + 3));
            case 'g': return giveInMind(text.digit(place + 1), text.digit(place + 2));
            default: return setLoudInMind(text.value(place + 1));
        }
    }

    private boolean giveInMind(int head, int song) {
        if (!mind.heads.has(head) || !mind.songs.has(song)) {
            return false;
        }
        mind.give(head, song);
        return true;
    }

    private boolean setLoudInMind(int v) {
        if (outside(v, 1, MOST_LOUD) != 0) {
            return false;
        }
        mind.loud = v;
        return true;
    }

    /** The letters that tell an office, and where its statements are. */
    private static final class Text {
        private static final String SONG_LETTERS = "slqcjh";
        private static final String HEAD_LETTERS = "hwdtby";
        private static final int END = -1;

        private final int[] signs = new int[MOST_LETTERS];
        private int number = 0;

        boolean isFull() {
            return number >= MOST_LETTERS;
        }

        void add(int c) {
            put(signs, number, c);
            number++;
        }

        int sign(int place) {
            return place >= 0 && place < number ? at(signs, place) : END;
        }

        int digit(int place) {
            int sign = sign(place);
            return sign >= '0' && sign <= '9' ? sign - '0' : NONE;
        }

        boolean isDigit(int place) {
            return digit(place) != NONE;
        }

        int value(int place) {
            int first = digit(place);
            int second = digit(place + 1);
            return second == NONE ? first : 10 * first + second;
        }

        /** Of the statement that begins here: which kind is told behind its first letter; below 0 none. */
        int kind(int place) {
            int sign = sign(place + 1);
            if (sign < 0) {
                return -1;
            }
            return (sign(place) == 's' ? SONG_LETTERS : HEAD_LETTERS).indexOf((char) sign);
        }

        /** The place where no office can go on; NONE if the letters are one. */
        int faultPlace() {
            int place = 0;
            // Each statement takes letters, so there are fewer of them than letters.
            for (int i = 0; i <= MOST_LETTERS; i++) {
                place = behindStatement(place);
                if (place < 0) {
                    return -1 - place;
                }
                if (place >= number) {
                    return NONE;
                }
            }
            return NONE;
        }

        /** The place behind the statement that begins here; below 0, where it can't go on, is -1 less that place. */
        int behindStatement(int start) {
            int place = start + 1;
            int leastDigits = 2;
            switch (sign(start)) {
                case 'd':
                case 'g':
                    break;
                case 's':
                case 'h':
                    if (kind(start) < 0) {
                        return -1 - place;
                    }
                    place++;
                    break;
                case 'o':
                    leastDigits = 1;
                    break;
                default:
                    return -1 - start;
            }
            int digits = 0;
            while (digits < 2 && isDigit(place)) {
                digits++;
                place++;
            }
            return digits >= leastDigits && sign(place) == ';' ? place + 1 : -1 - place;
        }
    }

    /** Doors between rooms, open or shut. */
    private static final class Doors {
        private final int[] one = new int[MOST_DOORS];
        private final int[] other = new int[MOST_DOORS];
        private final int[] open = new int[MOST_DOORS];
        private int number = 0;

        boolean has(int door) {
            return door >= 0 && door < number;
        }

        boolean add(int roomOne, int roomOther) {
            if (number >= MOST_DOORS || !isRoom(roomOne) || !isRoom(roomOther) || roomOne == roomOther) {
                return false;
            }
            put(one, number, roomOne);
            put(other, number, roomOther);
            put(open, number, 1);
            number++;
            return true;
        }

        boolean isOpen(int door) {
            return has(door) && at(open, door) == 1;
        }

        int turn(int door) {
            put(open, door, isOpen(door) ? 0 : 1);
            return at(open, door);
        }

        int openOnes() {
            int ones = 0;
            for (int door = 0; door < number; door++) {
                ones += isOpen(door) ? 1 : 0;
            }
            return ones;
        }

        /** The room itself and those behind its open doors, as bits. */
        int roomsHeardIn(int room) {
            int bits = 1 << room;
            for (int door = 0; door < number; door++) {
                if (at(open, door) == 1 && at(one, door) == room) {
                    bits |= 1 << at(other, door);
                }
                if (at(open, door) == 1 && at(other, door) == room) {
                    bits |= 1 << at(one, door);
                }
            }
            return bits;
        }

        void takeAs(Doors source) {
            copy(source.one, one);
            copy(source.other, other);
            copy(source.open, open);
            number = source.number;
        }
    }

    /** Songs, and what their kinds make of pull, length and hours. */
    private static final class Songs {
        private static final int PLAIN = 0;
        private static final int QUICK = 2;
        private static final int CUED = 3;
        private static final int JINGLE = 4;
        private static final int HYMN = 5;

        private final int[] kind = new int[MOST_SONGS];
        private final int[] pull = new int[MOST_SONGS];
        private final int[] length = new int[MOST_SONGS];
        private int number = 0;

        boolean has(int song) {
            return song >= 0 && song < number;
        }

        boolean isFull() {
            return number >= MOST_SONGS;
        }

        boolean add(int ofKind, int ofPull, int ofLength) {
            if (isFull() || ofLength < 1) {
                return false;
            }
            put(kind, number, ofKind);
            put(pull, number, ofPull);
            put(length, number, ofLength);
            number++;
            return true;
        }

        int fresh(int song) {
            int plain = 2 * at(pull, song) + at(length, song);
            switch (at(kind, song)) {
                case QUICK: return plain + 3;
                case JINGLE: return 2 * (plain + 3);
                default: return plain;
            }
        }

        /** By how much it fades in an hour; below 0 by how much stronger it becomes. */
        int fading(int song, int hour) {
            switch (at(kind, song)) {
                case PLAIN: return 2;
                case QUICK: return 3;
                case JINGLE: return 6;
                case CUED: return hour % 6 == 0 ? -4 : 1;
                case HYMN: return hour % 2 == 0 ? 1 : 0;
                default: return 1;
            }
        }

        /** Of several that pull alike the least is the strongest; any is stronger than none. */
        boolean isStronger(int song, int than) {
            if (!has(song) || !has(than)) {
                return has(song);
            }
            int more = at(pull, song) - at(pull, than);
            return more > 0 || more == 0 && song < than;
        }

        void takeAs(Songs source) {
            copy(source.kind, kind);
            copy(source.pull, pull);
            copy(source.length, length);
            number = source.number;
        }
    }

    /** Heads, what they hold, and from whom they have it. */
    private static final class Heads {
        private static final int WHISTLER = 1;
        private static final int DEAF = 2;
        private static final int TIRED = 3;
        private static final int BUSY = 4;
        private static final int YOUNG = 5;
        private static final int END = 0;
        private static final int SUMS = 1;
        private static final int GUM = 2;

        private final int[] kind = new int[MOST_HEADS];
        private final int[] place = new int[MOST_HEADS];
        private final int[] resist = new int[MOST_HEADS];
        private final int[] held = new int[MOST_HEADS];
        private final int[] strength = new int[MOST_HEADS];
        private final int[] gum = new int[MOST_HEADS];
        private final int[] giver = new int[MOST_HEADS];
        private final int[] origin = new int[MOST_HEADS];
        private int number = 0;

        boolean has(int head) {
            return head >= 0 && head < number;
        }

        boolean add(int ofKind, int room, int ofResist) {
            if (number >= MOST_HEADS || !isRoom(room)) {
                return false;
            }
            put(kind, number, ofKind);
            put(place, number, room);
            put(resist, number, ofResist);
            put(gum, number, 0);
            lose(number);
            number++;
            return true;
        }

        boolean hasSong(int head) {
            return at(held, head) != NONE;
        }

        int holders(int song) {
            int holders = 0;
            for (int head = 0; head < number; head++) {
                holders += song == ANY ? (hasSong(head) ? 1 : 0) : (at(held, head) == song ? 1 : 0);
            }
            return holders;
        }

        int allStrength() {
            int sum = 0;
            for (int head = 0; head < number; head++) {
                sum += at(strength, head);
            }
            return sum;
        }

        int bar(int head) {
            switch (at(kind, head)) {
                case DEAF: return 99;
                case TIRED: return at(resist, head) / 2;
                case BUSY: return at(resist, head) + 3;
                case YOUNG: return 0;
                default: return at(resist, head);
            }
        }

        boolean hums(int head, int loud, int hour) {
            switch (at(kind, head)) {
                case WHISTLER: return hasSong(head);
                case YOUNG: return hasSong(head) && hour % 2 == 0;
                case BUSY: return false;
                default: return at(strength, head) >= loud;
            }
        }

        void receive(int head, int song, int fresh, int ofGiver, int ofOrigin) {
            put(held, head, song);
            put(strength, head, fresh);
            put(giver, head, ofGiver);
            put(origin, head, ofOrigin);
        }

        void lose(int head) {
            put(held, head, NONE);
            put(strength, head, 0);
            put(giver, head, NONE);
            put(origin, head, NONE);
        }

        void weaken(int head, int less) {
            int left = Math.min(MOST_STRENGTH, at(strength, head) - less);
            if (left > 0) {
                put(strength, head, left);
            } else {
                lose(head);
            }
        }

        void chew(int head) {
            put(gum, head, Math.max(0, at(gum, head) - 1));
        }

        void treat(int head, int remedy) {
            switch (remedy) {
                case END:
                    weaken(head, at(strength, head) - at(strength, head) / 2);
                    break;
                case SUMS:
                    weaken(head, 4);
                    break;
                case GUM:
                    put(gum, head, 3);
                    break;
                default:
                    break;
            }
        }

        void changePlaces(int head, int with) {
            int before = at(place, head);
            put(place, head, at(place, with));
            put(place, with, before);
        }

        /** As the source is; what is held is held from the beginning, for the origins of what stands are not asked. */
        void takeAs(Heads source) {
            copy(source.kind, kind);
            copy(source.place, place);
            copy(source.resist, resist);
            copy(source.held, held);
            copy(source.strength, strength);
            copy(source.gum, gum);
            number = source.number;
            for (int head = 0; head < number; head++) {
                put(giver, head, hasSong(head) ? head : NONE);
                put(origin, head, hasSong(head) ? head : NONE);
            }
        }
    }

    /** All that there is in an office, and how an hour goes by in it. */
    private static final class Office {
        private final Doors doors = new Doors();
        private final Songs songs = new Songs();
        private final Heads heads = new Heads();
        private int hour = 0;
        private int loud = 6;

        // All hear by how all was, so what each gets is put down before any of it is given.
        private final int[] near = new int[MOST_HEADS];
        private final int[] hummed = new int[MOST_HEADS];
        private final int[] gotten = new int[MOST_HEADS];
        private final int[] gotFrom = new int[MOST_HEADS];
        private final int[] gotFirst = new int[MOST_HEADS];

        void takeAs(Office source) {
            doors.takeAs(source.doors);
            songs.takeAs(source.songs);
            heads.takeAs(source.heads);
            hour = source.hour;
            loud = source.loud;
        }

        int nearBits(int head) {
            int rooms = doors.roomsHeardIn(at(heads.place, head));
            int bits = 0;
            for (int other = 0; other < heads.number; other++) {
                if (other != head && (rooms >> at(heads.place, other) & 1) == 1) {
                    bits |= 1 << other;
                }
            }
            return bits;
        }

        void give(int head, int song) {
            if (songs.has(song)) {
                heads.receive(head, song, songs.fresh(song), head, head);
            } else {
                heads.lose(head);
            }
        }

        void passHours(int n) {
            for (int i = 0; i < n; i++) {
                passHour();
            }
        }

        /** Answers how many got a song. */
        int passHour() {
            for (int head = 0; head < heads.number; head++) {
                put(near, head, nearBits(head));
                put(hummed, head, heads.hums(head, loud, hour) ? at(heads.held, head) : NONE);
            }
            for (int head = 0; head < heads.number; head++) {
                listen(head);
            }
            int getters = 0;
            for (int head = 0; head < heads.number; head++) {
                int song = at(gotten, head);
                if (songs.has(song)) {
                    heads.receive(head, song, songs.fresh(song), at(gotFrom, head), at(gotFirst, head));
                    getters++;
                } else {
                    heads.weaken(head, weakening(head));
                }
                heads.chew(head);
            }
            hour++;
            return getters;
        }

        private void listen(int head) {
            int best = NONE;
            int giver = NONE;
            for (int other = 0; other < heads.number; other++) {
                int song = at(hummed, other);
                boolean isHeard = (at(near, head) >> other & 1) == 1;
                if (isHeard && song != at(heads.held, head) && songs.isStronger(song, best)) {
                    best = song;
                    giver = other;
                }
            }
            boolean gets = songs.has(best) && at(songs.pull, best) > heads.bar(head)
                    && songs.fresh(best) > at(heads.strength, head);
            put(gotten, head, gets ? best : NONE);
            put(gotFrom, head, giver);
            put(gotFirst, head, at(heads.origin, giver));
        }

        private int weakening(int head) {
            int song = at(heads.held, head);
            int gum = at(heads.gum, head) > 0 ? 1 : 0;
            return songs.has(song) ? songs.fading(song, hour) + gum : 0;
        }
    }
}
