/** The refusals of each promise in the order in which it tells them; they are counted, and nothing else changes. */
public final class RefusalTest {
    private static final Check CHECK = new Check("RefusalTest");
    private static final int LEAST = Integer.MIN_VALUE;
    private static final int GREATEST = Integer.MAX_VALUE;
    /** The second has no song. */
    private static final String TWO = "d01;ss53;sl42;hh00;hh10;g00;";

    private static SongThatStays x;
    private static int[] counts;

    public static void main(String[] args) {
        promises2to6();
        promises7to12();
        promises13to16();
        promises17to20();
        promises21to24();
        promise25();
        promises26to32();
        CHECK.end();
    }

    private static void begin(String office) {
        x = Check.told(office);
        counts = new int[7];
    }

    private static void refused(String call, int got, int want) {
        CHECK.due(call, got, want);
        counts[-want]++;
    }

    private static void end(String part, String before) {
        StringBuilder want = new StringBuilder();
        for (int i = 1; i <= 6; i++) {
            want.append(i == 1 ? "" : " ").append(counts[i]);
        }
        CHECK.due(part + ": counts", Check.refusals(x), want.toString());
        CHECK.due(part + ": nothing else changed", Check.all(x), before);
    }

    private static void promises2to6() {
        begin(TWO);
        String before = Check.all(x);
        refused("letter(-1)", x.letter(-1), -4);
        refused("letter(256)", x.letter(256), -6);
        refused("letter(least)", x.letter(LEAST), -4);
        refused("letter(greatest)", x.letter(GREATEST), -6);
        for (int song : new int[] {-1, 2, LEAST, GREATEST}) {
            refused("song(" + song + ", 0)", x.song(song, 0), -1);
            refused("song(" + song + ", 5)", x.song(song, 5), -1);
        }
        for (int what : new int[] {-1, 5, LEAST, GREATEST}) {
            refused("song(1, " + what + ")", x.song(1, what), -2);
        }
        for (int head : new int[] {-1, 2, LEAST, GREATEST}) {
            refused("head(" + head + ", 0)", x.head(head, 0), -1);
            refused("head(" + head + ", 8)", x.head(head, 8), -1);
            refused("near(" + head + ")", x.near(head), -1);
        }
        for (int what : new int[] {-1, 8, LEAST, GREATEST}) {
            refused("head(1, " + what + ")", x.head(1, what), -2);
        }
        end("promises 2 to 6", before);
    }

    private static void promises7to12() {
        begin(TWO);
        String before = Check.all(x);
        for (int none : new int[] {-1, 2, LEAST, GREATEST}) {
            refused("door(" + none + ")", x.door(none == 2 ? 1 : none), -1);
            refused("go(" + none + ", 0)", x.go(none, 0), -1);
            refused("go(" + none + ", 5)", x.go(none, 5), -1);
            refused("get(" + none + ", 0)", x.get(none, 0), -1);
            refused("get(" + none + ", -1)", x.get(none, -1), -1);
            refused("remedy(" + none + ", 0)", x.remedy(none, 0), -1);
            refused("remedy(" + none + ", 3)", x.remedy(none, 3), -1);
        }
        for (int room : new int[] {-1, 5, LEAST, GREATEST}) {
            refused("go(0, " + room + ")", x.go(0, room), -1);
        }
        for (int song : new int[] {-2, 2, LEAST, GREATEST}) {
            refused("get(0, " + song + ")", x.get(0, song), -1);
        }
        for (int what : new int[] {-1, 3, LEAST, GREATEST}) {
            refused("remedy(1, " + what + ")", x.remedy(1, what), -2);
        }
        refused("remedy(1, 0)", x.remedy(1, 0), -3);
        refused("remedy(1, 1)", x.remedy(1, 1), -3);
        refused("loud(0)", x.loud(0), -4);
        refused("loud(21)", x.loud(21), -6);
        refused("loud(least)", x.loud(LEAST), -4);
        refused("loud(greatest)", x.loud(GREATEST), -6);
        end("promises 7 to 12", before);
    }

    private static void promises13to16() {
        begin(TWO);
        String before = Check.all(x);
        for (int none : new int[] {-1, 2, LEAST, GREATEST}) {
            refused("hold(" + none + ", 0, 0)", x.hold(none, 0, 0), -1);
            refused("hold(" + none + ", -1, 2)", x.hold(none, -1, 2), -1);
            refused("takes(" + none + ", 0)", x.takes(none, 0), -1);
            refused("takes(0, " + none + ")", x.takes(0, none), -1);
            int song = none == -1 ? -2 : none;
            refused("have(" + song + ", 0)", x.have(song, 0), -1);
            refused("have(" + song + ", -1)", x.have(song, -1), -1);
            refused("have(" + song + ", 61)", x.have(song, 61), -1);
        }
        for (int n : new int[] {-1, LEAST}) {
            refused("hold(0, " + n + ", 2)", x.hold(0, n, 2), -4);
            refused("have(-1, " + n + ")", x.have(-1, n), -4);
        }
        for (int n : new int[] {61, GREATEST}) {
            refused("hold(0, " + n + ", 2)", x.hold(0, n, 2), -6);
            refused("have(0, " + n + ")", x.have(0, n), -6);
        }
        for (int what : new int[] {-1, 2, LEAST, GREATEST}) {
            refused("hold(0, 60, " + what + ")", x.hold(0, 60, what), -2);
        }
        end("promises 13 to 16", before);
    }

    private static void promises17to20() {
        begin(TWO);
        String before = Check.all(x);
        for (int none : new int[] {-1, 2, LEAST, GREATEST}) {
            int song = none == -1 ? -2 : none;
            refused("most(" + song + ", 0, 0)", x.most(song, 0, 0), -1);
            refused("most(" + song + ", -1, 2)", x.most(song, -1, 2), -1);
            refused("from(" + none + ", 61)", x.from(none, 61), -1);
            refused("first(" + none + ", 61)", x.first(none, 61), -1);
        }
        for (int n : new int[] {-1, LEAST}) {
            refused("most(-1, " + n + ", 2)", x.most(-1, n, 2), -4);
            refused("lasts(" + n + ")", x.lasts(n), -4);
            refused("from(0, " + n + ")", x.from(0, n), -4);
            refused("first(0, " + n + ")", x.first(0, n), -4);
        }
        for (int n : new int[] {61, GREATEST}) {
            refused("most(0, " + n + ", 2)", x.most(0, n, 2), -6);
            refused("lasts(" + n + ")", x.lasts(n), -6);
            refused("from(0, " + n + ")", x.from(0, n), -6);
            refused("first(0, " + n + ")", x.first(0, n), -6);
        }
        for (int what : new int[] {-1, 2, LEAST, GREATEST}) {
            refused("most(0, 60, " + what + ")", x.most(0, 60, what), -2);
        }
        end("promises 17 to 20", before);
    }

    private static void promises21to24() {
        begin(TWO);
        String before = Check.all(x);
        for (int none : new int[] {-1, 2, LEAST, GREATEST}) {
            refused("rid(" + none + ", 2)", x.rid(none, 2), -1);
            refused("instead(" + none + ")", x.instead(none), -1);
        }
        for (int what : new int[] {-1, 2, LEAST, GREATEST}) {
            refused("rid(0, " + what + ")", x.rid(0, what), -2);
            refused("rid(1, " + what + ")", x.rid(1, what), -2);
        }
        refused("rid(1, 0)", x.rid(1, 0), -3);
        refused("rid(1, 1)", x.rid(1, 1), -3);
        refused("instead(1)", x.instead(1), -3);
        for (int n : new int[] {-1, LEAST}) {
            refused("shut(" + n + ")", x.shut(n), -4);
            refused("seats(" + n + ")", x.seats(n), -4);
        }
        for (int n : new int[] {61, GREATEST}) {
            refused("shut(" + n + ")", x.shut(n), -6);
            refused("seats(" + n + ")", x.seats(n), -6);
        }
        end("promises 21 to 24", before);
    }

    private static void promise25() {
        begin("ss11;ss12;ss13;ss14;");
        String before = Check.all(x);
        refused("write(0, 61, 2)", x.write(0, 61, 2), -4);
        refused("write(10, -1, 2)", x.write(10, -1, 2), -4);
        refused("write(least, 0, 0)", x.write(LEAST, 0, 0), -4);
        refused("write(1, least, 0)", x.write(1, LEAST, 0), -4);
        refused("write(10, 0, 2)", x.write(10, 0, 2), -6);
        refused("write(1, 61, 2)", x.write(1, 61, 2), -6);
        refused("write(greatest, 0, 0)", x.write(GREATEST, 0, 0), -6);
        refused("write(9, greatest, 0)", x.write(9, GREATEST, 0), -6);
        refused("write(9, 60, 2)", x.write(9, 60, 2), -2);
        refused("write(9, 60, -1)", x.write(9, 60, -1), -2);
        refused("write(9, 60, 0)", x.write(9, 60, 0), -3);
        refused("write(1, 0, 1)", x.write(1, 0, 1), -3);
        end("promise 25", before);
        begin("ss11;ss12;ss13;ss14;ss15;");
        before = Check.all(x);
        refused("write(0, 0, 0), five songs", x.write(0, 0, 0), -4);
        refused("write(1, 0, 2), five songs", x.write(1, 0, 2), -6);
        end("promise 25, five songs", before);
    }

    private static void promises26to32() {
        begin(TWO);
        x.row(0);
        String before = Check.all(x);
        refused("row(-1)", x.row(-1), -4);
        refused("row(10)", x.row(10), -6);
        refused("row(least)", x.row(LEAST), -4);
        refused("row(greatest)", x.row(GREATEST), -6);
        refused("otherwise(-1, 2)", x.otherwise(-1, 2), -4);
        refused("otherwise(61, 2)", x.otherwise(61, 2), -6);
        refused("otherwise(least, 0)", x.otherwise(LEAST, 0), -4);
        refused("otherwise(greatest, 0)", x.otherwise(GREATEST, 0), -6);
        refused("otherwise(60, 2)", x.otherwise(60, 2), -2);
        refused("otherwise(0, -1)", x.otherwise(0, -1), -2);
        refused("otherwise(0, 0)", x.otherwise(0, 0), -3);
        refused("otherwise(60, 1)", x.otherwise(60, 1), -3);
        for (int n : new int[] {0, -1, LEAST}) {
            refused("seeds(" + n + ", 0)", x.seeds(n, 0), -4);
        }
        for (int n : new int[] {41, GREATEST}) {
            refused("seeds(" + n + ", 0)", x.seeds(n, 0), -6);
        }
        refused("on()", x.on(), -3);
        end("promises 26 to 32", before);
        Check.tellRow(x, 0, 0, 0, 0, 0);
        before = Check.all(x);
        refused("otherwise, a row too long", x.otherwise(0, 0), -3);
        refused("row(-1) when full", x.row(-1), -4);
        refused("row(0) when full", x.row(0), -6);
        end("promise 26, full", before);
    }
}
