import java.util.function.Supplier;

/**
 * The refusals of each promise: every way to put together arguments that fit (the least and the greatest allowed) and
 * that don't (one beyond each, and the int's own ends). The first that fits in the order in which the promise tells
 * them is answered and counted, and a twin that was not asked answers all the same as the one that was.
 */
public final class RefusalTest {
    private static final Check CHECK = new Check("RefusalTest");
    private static final int NONE = 0;
    private static final int[] HEAD = range(0, 2, -1, -1);
    private static final int[] SONG = range(0, 1, -1, -1);
    private static final int[] SONG_OR_ANY = range(-1, 1, -1, -1);
    private static final int[] DOOR = range(0, 1, -1, -1);
    private static final int[] ROOM = range(0, 4, -1, -1);
    private static final int[] WHAT = range(0, 1, -2, -2);
    private static final int[] HOURS = range(0, 60, -4, -6);

    private interface Call {
        int on(SongThatStays x, int[] v);
    }

    /** The refusal that the state asks for with these arguments, or NONE. */
    private interface State {
        int fits(int[] v);
    }

    public static void main(String[] args) {
        letter();
        office();
        songAndHead();
        nearDoorGo();
        get();
        remedy();
        loud();
        holdAndHave();
        takes();
        most();
        lasts();
        fromAndFirst();
        ridAndInstead();
        shutAndSeats();
        write();
        row();
        otherwise();
        seeds();
        on();
        neverRefused();
        CHECK.end();
    }

    /** Values with the refusal that each asks for: the ends are allowed, one beyond each is not. */
    private static int[] range(int least, int greatest, int below, int above) {
        return new int[] {least, NONE, greatest, NONE, least - 1, below, greatest + 1, above,
            Integer.MIN_VALUE, below, Integer.MAX_VALUE, above};
    }

    private static int[] order(int... refusals) {
        return refusals;
    }

    /** A door is shut, one head has gum and one no song, letters and a row are begun, an image, refusals of all kinds. */
    private static SongThatStays standing() {
        SongThatStays x = Check.told("d01;d12;ss53;sl42;hh04;hw13;hy26;g00;g21;");
        x.remedy(0, 2);
        x.image();
        x.hour();
        x.get(1, -1);
        x.door(0);
        x.go(2, 3);
        x.loud(4);
        x.letter('o');
        x.letter('7');
        Check.tellRow(x, 0, 9);
        x.song(9, 0);
        x.song(0, 9);
        x.remedy(1, 0);
        x.letter(-1);
        x.letter(256);
        return x;
    }

    /** All that can be seen of it, the contents of letters, row and image, too; it is used up then. */
    private static String everything(SongThatStays x) {
        StringBuilder all = new StringBuilder(Check.all(x)).append(doors(x));
        all.append("row ").append(x.judge()).append(" of ").append(x.count(8)).append(' ');
        x.letter(';');
        all.append("office ").append(x.office()).append(" loud ").append(x.count(5)).append(' ');
        int hour = x.on();
        if (hour >= 0) {
            all.append("on ").append(hour).append(' ').append(Check.all(x)).append(doors(x));
        }
        return all.toString();
    }

    private static String doors(SongThatStays x) {
        StringBuilder all = new StringBuilder("doors ");
        for (int door = 0; door < x.count(2); door++) {
            all.append(x.door(door)).append(' ');
            x.door(door);
        }
        return all.toString();
    }

    private static void promise(String name, int[] order, Call call, int[]... arguments) {
        promise(name, order, call, RefusalTest::standing, v -> NONE, arguments);
    }

    private static void promise(String name, int[] order, Call call, Supplier<SongThatStays> made, State state,
            int[]... arguments) {
        int ways = 1;
        for (int[] argument : arguments) {
            ways *= argument.length / 2;
        }
        for (int way = 0; way < ways; way++) {
            int[] values = new int[arguments.length];
            int[] fits = new int[arguments.length + 1];
            int rest = way;
            StringBuilder told = new StringBuilder(name).append('(');
            for (int i = 0; i < arguments.length; i++) {
                int number = arguments[i].length / 2;
                values[i] = arguments[i][rest % number * 2];
                fits[i] = arguments[i][rest % number * 2 + 1];
                rest /= number;
                told.append(i == 0 ? "" : ", ").append(values[i]);
            }
            fits[arguments.length] = state.fits(values);
            one(told.append(")").toString(), call, made, values, first(order, fits));
        }
    }

    private static int first(int[] order, int[] fits) {
        for (int refusal : order) {
            for (int fit : fits) {
                if (fit == refusal) {
                    return refusal;
                }
            }
        }
        return NONE;
    }

    private static void one(String told, Call call, Supplier<SongThatStays> made, int[] values, int want) {
        SongThatStays asked = made.get();
        SongThatStays twin = made.get();
        int got = call.on(asked, values);
        if (want == NONE) {
            CHECK.due(told + " is no refusal", got >= 0 || got == -9 ? 1 : 0, 1);
            CHECK.due(told + " counts none", Check.refusals(asked), Check.refusals(twin));
            return;
        }
        CHECK.due(told, got, want);
        for (int refusal = -1; refusal >= -6; refusal--) {
            CHECK.due(told + " count(" + (10 - refusal) + ")", asked.count(10 - refusal),
                    twin.count(10 - refusal) + (refusal == want ? 1 : 0));
        }
        CHECK.due(told + " changes nothing else", everything(asked), everything(twin));
    }

    /** "-4; -6 (255; 96, too)". */
    private static void letter() {
        Call call = (x, v) -> x.letter(v[0]);
        int[] letters = range(0, 255, -4, -6);
        promise("letter", order(-4, -6), call, letters);
        promise("letter, 95 there", order(-4, -6), call, () -> lettered(95), v -> NONE, letters);
        promise("letter, 96 there", order(-4, -6), call, () -> lettered(96), v -> -6, letters);
    }

    private static SongThatStays lettered(int number) {
        SongThatStays x = new SongThatStays();
        for (int i = 0; i < number; i++) {
            x.letter("o7;".charAt(i % 3));
        }
        return x;
    }

    /** "the FAULT (nothing is counted)". */
    private static void office() {
        for (String text : new String[] {"", "x", "d", "d00;", "o21;", "g99;", "ss10;"}) {
            SongThatStays x = standing();
            x.office();
            String before = Check.refusals(x);
            CHECK.due("office " + text + " has a fault", Check.tell(x, text) <= -1000 ? 1 : 0, 1);
            CHECK.due("office " + text + " counts nothing", Check.refusals(x), before);
        }
    }

    /** "-1; -2" either. */
    private static void songAndHead() {
        promise("song", order(-1, -2), (x, v) -> x.song(v[0], v[1]), SONG, range(0, 4, -2, -2));
        promise("head", order(-1, -2), (x, v) -> x.head(v[0], v[1]), HEAD, range(0, 7, -2, -2));
        State always = v -> -1;
        promise("song, none there", order(-1, -2), (x, v) -> x.song(v[0], v[1]), SongThatStays::new, always,
                range(0, 0, -1, -1), range(0, 4, -2, -2));
        promise("head, none there", order(-1, -2), (x, v) -> x.head(v[0], v[1]), SongThatStays::new, always,
                range(0, 0, -1, -1), range(0, 7, -2, -2));
    }

    /** "-1", of a head or a room "-1 either". */
    private static void nearDoorGo() {
        promise("near", order(-1), (x, v) -> x.near(v[0]), HEAD);
        promise("door", order(-1), (x, v) -> x.door(v[0]), DOOR);
        promise("go", order(-1), (x, v) -> x.go(v[0], v[1]), HEAD, ROOM);
        State always = v -> -1;
        promise("near, none there", order(-1), (x, v) -> x.near(v[0]), SongThatStays::new, always, range(0, 0, -1, -1));
        promise("door, none there", order(-1), (x, v) -> x.door(v[0]), SongThatStays::new, always, range(0, 0, -1, -1));
        promise("go, none there", order(-1), (x, v) -> x.go(v[0], v[1]), SongThatStays::new, always,
                range(0, 0, -1, -1), ROOM);
    }

    /** "song -1: he has none", "-1 either". */
    private static void get() {
        promise("get", order(-1), (x, v) -> x.get(v[0], v[1]), HEAD, SONG_OR_ANY);
        promise("get, no songs there", order(-1), (x, v) -> x.get(v[0], v[1]), () -> Check.told("hh00;hh00;hh00;"),
                v -> NONE, HEAD, range(-1, -1, -1, -1));
    }

    /** "-1; -2; -3 he has no SONG (0, 1)": gum is for everyone. */
    private static void remedy() {
        Call call = (x, v) -> x.remedy(v[0], v[1]);
        int[] remedies = range(0, 2, -2, -2);
        promise("remedy", order(-1, -2, -3), call, HEAD, remedies);
        State songless = v -> v[1] == 2 ? NONE : -3;
        promise("remedy, he has none", order(-1, -2, -3), call, () -> without(0, 2), songless, HEAD, remedies);
    }

    private static SongThatStays without(int... heads) {
        SongThatStays x = standing();
        for (int head : heads) {
            x.get(head, -1);
        }
        return x;
    }

    /** "-4; -6 20". */
    private static void loud() {
        promise("loud", order(-4, -6), (x, v) -> x.loud(v[0]), range(1, 20, -4, -6));
    }

    /** "-1; -4; -6 60; -2", and "-1; -4; -6 60". */
    private static void holdAndHave() {
        promise("hold", order(-1, -4, -6, -2), (x, v) -> x.hold(v[0], v[1], v[2]), HEAD, HOURS, WHAT);
        promise("have", order(-1, -4, -6), (x, v) -> x.have(v[0], v[1]), SONG_OR_ANY, HOURS);
        promise("have, no songs there", order(-1, -4, -6), (x, v) -> x.have(v[0], v[1]), SongThatStays::new, v -> NONE,
                range(-1, -1, -1, -1), HOURS);
    }

    /** "-1 either". */
    private static void takes() {
        promise("takes", order(-1), (x, v) -> x.takes(v[0], v[1]), HEAD, SONG);
    }

    /** "-1; -4; -6 60; -2". */
    private static void most() {
        Call call = (x, v) -> x.most(v[0], v[1], v[2]);
        promise("most", order(-1, -4, -6, -2), call, SONG_OR_ANY, HOURS, WHAT);
        promise("most, no songs there", order(-1, -4, -6, -2), call, SongThatStays::new, v -> NONE,
                range(-1, -1, -1, -1), HOURS, WHAT);
    }

    /** "-4; -6 60". */
    private static void lasts() {
        promise("lasts", order(-4, -6), (x, v) -> x.lasts(v[0]), HOURS);
    }

    /** "-1; -4; -6 60". */
    private static void fromAndFirst() {
        promise("from", order(-1, -4, -6), (x, v) -> x.from(v[0], v[1]), HEAD, HOURS);
        promise("first", order(-1, -4, -6), (x, v) -> x.first(v[0], v[1]), HEAD, HOURS);
    }

    /** "-1; -2; -3 he has no SONG", and "-1; -3 he has no SONG". */
    private static void ridAndInstead() {
        promise("rid", order(-1, -2, -3), (x, v) -> x.rid(v[0], v[1]), HEAD, WHAT);
        promise("rid, he has none", order(-1, -2, -3), (x, v) -> x.rid(v[0], v[1]), () -> without(0, 2), v -> -3,
                HEAD, WHAT);
        promise("instead", order(-1, -3), (x, v) -> x.instead(v[0]), HEAD);
        promise("instead, he has none", order(-1, -3), (x, v) -> x.instead(v[0]), () -> without(0, 2), v -> -3, HEAD);
    }

    /** "-4; -6 60". */
    private static void shutAndSeats() {
        promise("shut", order(-4, -6), (x, v) -> x.shut(v[0]), HOURS);
        promise("seats", order(-4, -6), (x, v) -> x.seats(v[0]), HOURS);
    }

    /** "-4 (LENGTH below 1, n below 0); -6 (9; 60; 5 SONGS there are); -2; -3 there are no HEADS". */
    private static void write() {
        Call call = (x, v) -> x.write(v[0], v[1], v[2]);
        int[] lengths = range(1, 9, -4, -6);
        int[] order = order(-4, -6, -2, -3);
        String four = "ss11;ss12;ss13;ss14;";
        promise("write", order, call, lengths, HOURS, WHAT);
        promise("write, 4 songs", order, call, () -> Check.told(four + "hh00;"), v -> NONE, lengths, HOURS, WHAT);
        promise("write, 5 songs", order, call, () -> Check.told(four + "ss15;hh00;"), v -> -6, lengths, HOURS, WHAT);
        promise("write, no heads", order, call, () -> Check.told(four), v -> -3, lengths, HOURS, WHAT);
        promise("write, 5 songs and no heads", order, call, () -> Check.told(four + "ss15;"), v -> -6, lengths, HOURS,
                WHAT);
    }

    /** "-4; -6 (9; 6, too)". */
    private static void row() {
        Call call = (x, v) -> x.row(v[0]);
        int[] numbers = range(0, 9, -4, -6);
        promise("row", order(-4, -6), call, numbers);
        promise("row, 5 there", order(-4, -6), call, () -> rowed(5), v -> NONE, numbers);
        promise("row, 6 there", order(-4, -6), call, () -> rowed(6), v -> -6, numbers);
    }

    /** As all is of three heads; what comes behind is told by judge, for six heads have it all. */
    private static SongThatStays rowed(int number) {
        SongThatStays x = Check.told("ss53;hh00;hh00;hh00;hh00;hh00;hh00;g00;g20;g40;");
        for (int i = 0; i < number; i++) {
            x.row(i % 2 == 0 ? 0 : 9);
        }
        return x;
    }

    /** "-4; -6 60; -2; -3 the ROW is not as long as there are HEADS". */
    private static void otherwise() {
        Call call = (x, v) -> x.otherwise(v[0], v[1]);
        int[] order = order(-4, -6, -2, -3);
        promise("otherwise, one less", order, call, RefusalTest::standing, v -> -3, HOURS, WHAT);
        promise("otherwise, as long", order, call, () -> longer(1), v -> NONE, HOURS, WHAT);
        promise("otherwise, one more", order, call, () -> longer(2), v -> -3, HOURS, WHAT);
        promise("otherwise, six", order, call, () -> rowed(6), v -> NONE, HOURS, WHAT);
        promise("otherwise, five of six", order, call, () -> rowed(5), v -> -3, HOURS, WHAT);
        promise("otherwise, nobody and nothing", order, call, SongThatStays::new, v -> NONE, HOURS, WHAT);
        promise("otherwise, nobody", order, call, RefusalTest::rowedWithNobody, v -> -3, HOURS, WHAT);
    }

    private static SongThatStays longer(int more) {
        SongThatStays x = standing();
        for (int i = 0; i < more; i++) {
            x.row(1);
        }
        return x;
    }

    private static SongThatStays rowedWithNobody() {
        SongThatStays x = new SongThatStays();
        x.row(9);
        return x;
    }

    /** "-4; -6 40": n is 1 at least, whichever the seed. */
    private static void seeds() {
        promise("seeds", order(-4, -6), (x, v) -> x.seeds(v[0], v[1]), range(1, 40, -4, -6),
                new int[] {Integer.MIN_VALUE, NONE, -1, NONE, 0, NONE, Integer.MAX_VALUE, NONE});
    }

    /** "-3 there is none". */
    private static void on() {
        promise("on", order(-3), (x, v) -> x.on());
        promise("on, no image", order(-3), (x, v) -> x.on(), SongThatStays::new, v -> -3);
        promise("on, no image", order(-3), (x, v) -> x.on(), () -> rowed(6), v -> -3);
    }

    private static void neverRefused() {
        promise("office", order(), (x, v) -> x.office(), () -> lettered(96), v -> NONE);
        promise("hour", order(), (x, v) -> x.hour());
        promise("still", order(), (x, v) -> x.still());
        promise("judge", order(), (x, v) -> x.judge());
        promise("image", order(), (x, v) -> x.image());
        promise("count", order(), (x, v) -> x.count(v[0]), range(0, 17, NONE, NONE));
    }
}
