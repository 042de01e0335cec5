import java.math.BigInteger;

/** The bounds of "SHUT", "SEEDS" and "THE IMAGE", and of promises 23 to 32: a test for each sentence. */
public final class EdgePlanTest {
    private static final Check CHECK = new Check("EdgePlanTest");
    private static final int[] SEEDS = {0, 1, -1, 2, -2, 255, 256, 65535, 65536, 1013904223, -1013904223, 1664525,
        Integer.MAX_VALUE, Integer.MAX_VALUE - 1, Integer.MIN_VALUE, Integer.MIN_VALUE + 1};

    public static void main(String[] args) {
        shutNow();
        shutFirst();
        shutLess();
        shutOpenOnes();
        shutTheLast();
        shutInTheLastHour();
        seatsNow();
        seatsFirst();
        seatsLess();
        seatsTheLast();
        seatsInTheLastHour();
        writeFirst();
        writeTheLast();
        writeHours();
        writeLengths();
        writeInPlaceOfHis();
        writeHowManySongs();
        rowNumbers();
        otherwiseNow();
        otherwiseNone();
        otherwiseAsMany();
        otherwiseInTheLastHour();
        otherwiseStays();
        judgeFirst();
        judgeTooShort();
        judgeTooLong();
        judgeEmpty();
        seedsOfAllKinds();
        seedsGoOn();
        seedsHours();
        imageAndOn();
        imageIsNotIn();
        imageOfNobody();
        counts();
        CHECK.end();
    }

    private static void due(String call, long got, long want) {
        CHECK.due(call, got, want);
    }

    private static void shut(String office, int n, int want) {
        SongThatStays x = Check.told(office);
        String before = Check.all(x);
        due("shut(" + n + ") " + office, x.shut(n), want);
        CHECK.due("all is as it was", Check.all(x), before);
    }

    /** "less than now so": behind 0 hours it is never less. */
    private static void shutNow() {
        shut("d01;ss53;hw00;hh10;g00;", 0, -9);
        shut("d01;ss53;hw00;hh10;g00;", 1, 0);
    }

    /** "the open DOOR that, shut, leaves least ..; of several the first". */
    private static void shutFirst() {
        shut("d01;d02;d03;ss53;hw00;hh10;hh20;hh30;g00;", 1, 0);
        shut("d01;d02;d03;ss53;hw00;hh10;hh20;hh20;hh30;hh30;g00;", 1, 1);
        shut("d01;d03;d02;ss53;hw00;hh10;hh20;hh20;hh20;hh30;g00;", 1, 2);
        shut("d04;d01;d02;ss53;hw00;hh10;hh20;g00;", 1, 1);
        shut("d04;d01;d02;ss53;ss53;hw00;hh10;hh20;g01;", 1, 1);
    }

    /** "less than now so; .. -9": as many is not less; without doors there is none. */
    private static void shutLess() {
        shut("d01;ss53;hw00;hh00;hd10;g00;", 1, -9);
        shut("d01;d10;ss53;hw00;hh10;g00;", 1, -9);
        shut("ss53;hw00;hh00;g00;", 1, -9);
        shut("d01;ss53;hw00;hh10;", 1, -9);
        due("nobody there", new SongThatStays().shut(60), -9);
        // With the door shut more have one in the end: the song that drives the other out goes sooner.
        shut("d01;ss69;sl53;hd00;hd10;g00;g11;", 9, -9);
    }

    /** "the open DOOR": a shut one would leave less if it were turned, but is none. */
    private static void shutOpenOnes() {
        SongThatStays x = Check.told("d01;d02;d34;ss53;hw00;hh10;hh20;g00;");
        x.door(0);
        due("the other one", x.shut(1), 1);
        x.door(1);
        due("one that leads nowhere is left", x.shut(1), -9);
        x.door(2);
        due("all are shut", x.shut(1), -9);
        x.door(0);
        due("opened again", x.shut(1), 0);
        due("doors", x.count(3), 1);
    }

    private static void shutTheLast() {
        shut("d12;d12;d12;d12;d12;d12;d12;d01;ss53;hw00;hh10;g00;", 1, 7);
    }

    /** Two whistlers keep it alive through the door; behind 60 hours nobody would have it. */
    private static void shutInTheLastHour() {
        shut("d01;ss53;hw00;hw10;g00;", 60, 0);
        shut("d01;sc43;hd00;hd10;g00;g10;", 60, -9);
        shut("d01;ss42;sc43;sc43;hd00;hh10;g01;", 60, 0);
    }

    private static void seats(String office, int n, int want) {
        SongThatStays x = Check.told(office);
        String before = Check.all(x);
        due("seats(" + n + ") " + office, x.seats(n), want);
        CHECK.due("all is as it was", Check.all(x), before);
    }

    /** "less than now so": behind 0 hours it is never less. */
    private static void seatsNow() {
        seats("ss53;hw00;hh00;hd10;g00;", 0, -9);
        seats("ss53;hw00;hh00;hd10;g00;", 1, 2);
    }

    /** "(10 times the lesser and the other) .. leave least ..; of several the first". */
    private static void seatsFirst() {
        seats("ss53;hw00;hh00;hd10;hd10;g00;", 1, 2);
        seats("ss53;hw00;hh00;hh00;hd10;hd10;g00;", 1, 3);
        seats("ss53;hd10;hd10;hw00;hh00;g20;", 1, 2);
        seats("ss53;hd20;hd20;hh00;hw00;hd10;g30;", 1, 2);
        seats("ss53;ss53;hw00;hh00;hd10;g01;", 1, 2);
        seats("ss53;ss53;hw00;hh00;hd10;hd10;g01;g20;", 1, 3);
        seats("ss53;hd00;hw00;hh00;hh10;g10;", 1, 13);
        seats("d12;ss53;hd00;hw00;hh00;hh10;hh20;g10;", 1, -9);
    }

    /** "less than now so; .. -9": as many is not less; one alone has nobody to change with. */
    private static void seatsLess() {
        seats("ss53;hw00;hh00;hh00;g00;", 1, -9);
        seats("ss53;hw00;hh10;g00;", 1, -9);
        seats("ss53;hw00;g00;", 1, -9);
        seats("ss53;hw10;hh10;g00;", 1, -9);
        seats("ss53;hw40;hh40;hh40;g00;", 1, -9);
        seats("ss53;hw00;hh00;", 1, -9);
        due("nobody there", new SongThatStays().seats(60), -9);
    }

    /** The greatest answer: 45. */
    private static void seatsTheLast() {
        seats("ss53;hd00;hd00;hd00;hd00;hh00;hd10;g00;g10;g20;g30;", 1, 45);
        seats("ss53;hh00;hh00;hd10;hd10;hd10;hd10;g00;", 1, 2);
    }

    private static void seatsInTheLastHour() {
        seats("ss53;hw00;hw00;hd10;g00;", 60, 2);
        seats("sc43;hd00;hd00;hd10;g00;g10;", 60, -9);
    }

    private static void write(String office, int length, int n, int song, int holders) {
        SongThatStays x = Check.told(office);
        String before = Check.all(x);
        due("write(" + length + ", " + n + ", 0) " + office, x.write(length, n, 0), song);
        due("write(" + length + ", " + n + ", 1) " + office, x.write(length, n, 1), holders);
        CHECK.due("all is as it was", Check.all(x), before);
    }

    /** "most have ..; of several the first": kind 0 with pull 0, if all are alike, though nobody has any of them. */
    private static void writeFirst() {
        write("hd00;", 1, 0, 0, 1);
        write("hw00;hh00;", 1, 1, 1, 2);
        write("hw00;hh08;", 1, 1, 9, 2);
        write("hw00;hh09;", 1, 1, 1, 1);
        write("sj99;hh00;hd00;g10;", 1, 1, 0, 0);
    }

    /** The greatest answer: kind 5, pull 9. */
    private static void writeTheLast() {
        SongThatStays x = Check.told("sl92;sj91;hd00;hd00;hb00;o16;");
        x.hour();
        x.get(1, 0);
        x.get(2, 1);
        due("a hymn that pulls most", x.write(1, 6, 0), 59);
        due("two have it", x.write(1, 6, 1), 2);
    }

    /** "n" 0 and 60: in an hour of 60 that 6 divides a cued one is 4 stronger. */
    private static void writeHours() {
        write("hd00;", 9, 0, 0, 1);
        write("hd00;", 9, 60, 31, 1);
        write("hd00;", 1, 60, 35, 1);
        write("hd00;", 1, 1, 1, 1);
        SongThatStays x = Check.told("hd00;");
        x.hour();
        due("from hour 1", x.write(1, 60, 0), 37);
        due("one has it", x.write(1, 60, 1), 1);
    }

    /** "a told LENGTH" 1 and 9. */
    private static void writeLengths() {
        write("hd00;", 1, 5, 5, 1);
        write("hd00;", 9, 5, 1, 1);
        write("hd00;", 9, 4, 0, 1);
    }

    /** "got by HEAD 0 now (in place of his)": he hums his own no more; with another one he alone has the new one. */
    private static void writeInPlaceOfHis() {
        write("sj99;hw00;hh00;g00;", 1, 1, 1, 2);
        write("sj99;hd00;hw00;g00;g10;", 1, 0, 0, 1);
        write("hd10;hw00;hw00;hw00;", 1, 1, 1, 1);
    }

    /** "-6 (.. 5 SONGS there are)": with four it is the fifth. */
    private static void writeHowManySongs() {
        write("ss11;ss11;ss11;ss11;hw00;hh00;", 1, 1, 1, 2);
        write("ss91;ss91;ss91;ss91;hw00;hh00;g03;", 1, 1, 1, 2);
        SongThatStays x = Check.told("ss11;ss11;ss11;ss11;ss11;hw00;hh00;");
        due("with five", x.write(1, 1, 0), -6);
    }

    /** "A number more of the ROW (0 .. 9): how many", six at most. */
    private static void rowNumbers() {
        for (int v = 0; v <= 9; v++) {
            due("row " + v, new SongThatStays().row(v), 1);
        }
        SongThatStays x = new SongThatStays();
        due("none", x.count(8), 0);
        for (int i = 1; i <= 6; i++) {
            due("number " + i, x.row(9), i);
            due("in the row", x.count(8), i);
        }
        due("a seventh", x.row(9), -6);
        due("in the row still", x.count(8), 6);
        due("judged", x.judge(), 0);
        due("room again", x.row(0), 1);
    }

    private static void otherwise(String office, int n, int ways, int first, int... row) {
        SongThatStays x = Check.told(office);
        Check.tellRow(x, row);
        String before = Check.all(x);
        due("otherwise(" + n + ", 0) " + office, x.otherwise(n, 0), ways);
        due("otherwise(" + n + ", 1) " + office, x.otherwise(n, 1), first);
        CHECK.due("all is as it was, the row, too", Check.all(x), before);
    }

    /** "behind n HOURS" 0: "another SONG": how all is now is no way. */
    private static void otherwiseNow() {
        otherwise("ss53;hd00;g00;", 0, 0, -9, 0);
        otherwise("ss53;hd00;g00;", 0, 1, 9, 9);
        otherwise("ss53;hd00;", 0, 1, 0, 0);
        otherwise("ss53;hd00;", 0, 0, -9, 9);
        otherwise("ss53;ss53;ss53;ss53;ss53;hd00;hd00;g00;", 0, 1, 4, 4, 9);
        otherwise("ss53;ss53;ss53;ss53;ss53;hd00;hd00;g00;", 0, 0, -9, 4, 4);
    }

    /** "(10 times the HEAD and the SONG, 9 none; -9)": the least and the greatest answer. */
    private static void otherwiseNone() {
        otherwise("ss53;hd00;hd00;hd00;hd00;hd00;hd00;g50;", 0, 1, 59, 9, 9, 9, 9, 9, 9);
        otherwise("ss53;hd00;hd00;hd00;hd00;hd00;hd00;g50;", 0, 1, 0, 0, 9, 9, 9, 9, 0);
        otherwise("hd00;", 60, 0, -9, 9);
        otherwise("ss53;hd00;g00;", 0, 0, -9, 5);
        otherwise("ss53;hd00;g00;", 0, 0, -9, 8);
        otherwise("ss53;hd00;g00;", 0, 0, -9, 1);
        otherwise("", 0);
    }

    /** With nobody there an empty row is as long as there are heads. */
    private static void otherwise(String office, int n) {
        SongThatStays x = new SongThatStays();
        Check.tell(x, office);
        due("nobody, how many", x.otherwise(n, 0), 0);
        due("nobody, the first", x.otherwise(n, 1), -9);
    }

    /** "how many ways there are in which one HEAD alone ..": six heads by five songs, "the first" of them. */
    private static void otherwiseAsMany() {
        String heads = "hd00;hd00;hd00;hd00;hd00;hd00;";
        String songs = "ss01;ss01;ss01;ss01;ss01;";
        otherwise(songs + heads, 1, 30, 0, 9, 9, 9, 9, 9, 9);
        otherwise(songs + heads + "g00;g11;g22;g33;g44;g50;", 1, 30, 1, 9, 9, 9, 9, 9, 9);
        otherwise(songs + heads + "g00;", 1, 30, 1, 9, 9, 9, 9, 9, 9);
        otherwise("ss01;ss01;ss01;ss01;ss03;" + heads, 1, 1, 54, 9, 9, 9, 9, 9, 4);
        otherwise("ss01;ss01;ss01;ss01;ss03;" + heads + "g54;", 1, 5, 50, 9, 9, 9, 9, 9, 9);
    }

    /** "n" 60. */
    private static void otherwiseInTheLastHour() {
        otherwise("sc43;sc42;hd00;", 60, 1, 0, 0);
        otherwise("sc43;sc42;hd00;", 60, 1, 1, 9);
        otherwise("sc43;sc42;hd00;g00;", 60, 2, 1, 9);
        otherwise("sc43;sc42;hd00;g01;", 60, 1, 0, 0);
    }

    /** "(the ROW stays)". */
    private static void otherwiseStays() {
        SongThatStays x = Check.told("ss53;hd00;hd00;g00;");
        Check.tellRow(x, 0, 9);
        x.otherwise(5, 0);
        x.otherwise(5, 1);
        x.otherwise(61, 0);
        due("in the row", x.count(8), 2);
        due("as all is", x.judge(), -9);
    }

    private static void judged(String office, int want, int... row) {
        SongThatStays x = Check.told(office);
        Check.tellRow(x, row);
        due("judge " + office, x.judge(), want);
        due("(whichever it answers, the ROW has none then)", x.count(8), 0);
        CHECK.due("nothing is refused", Check.refusals(x), "0 0 0 0 0 0");
    }

    /** "the first that is not so": each of six. */
    private static void judgeFirst() {
        String six = "ss53;ss53;ss53;ss53;ss53;hd00;hd00;hd00;hd00;hd00;hd00;g00;g11;g22;g33;g44;";
        judged(six, -9, 0, 1, 2, 3, 4, 9);
        judged(six, 0, 9, 1, 2, 3, 4, 9);
        judged(six, 1, 0, 0, 2, 3, 4, 9);
        judged(six, 2, 0, 1, 9, 3, 4, 9);
        judged(six, 3, 0, 1, 2, 2, 9, 9);
        judged(six, 4, 0, 1, 2, 3, 5, 9);
        judged(six, 5, 0, 1, 2, 3, 4, 8);
    }

    /** "where it ends, if too short": if it is so till there. */
    private static void judgeTooShort() {
        String six = "ss53;hd00;hd00;hd00;hd00;hd00;hd00;g00;";
        judged(six, 5, 0, 9, 9, 9, 9);
        judged(six, 1, 0);
        judged(six, 4, 0, 9, 9, 9, 0);
        judged(six, 0, 9);
    }

    /** "how many HEADS, if too long": if it is so till there. */
    private static void judgeTooLong() {
        String five = "ss53;hd00;hd00;hd00;hd00;hd00;g00;";
        judged(five, 5, 0, 9, 9, 9, 9, 9);
        judged(five, 4, 0, 9, 9, 9, 0, 9);
        judged("ss53;hd00;", 1, 9, 9);
        judged("ss53;hd00;", 1, 9, 0, 0, 0, 0, 0);
        judged("ss53;hd00;", 0, 0, 9);
    }

    /** Nobody and nothing is as all is; nobody and one is too long; somebody and nothing is too short. */
    private static void judgeEmpty() {
        SongThatStays x = new SongThatStays();
        due("nobody and nothing", x.judge(), -9);
        x.row(9);
        due("nobody and one", x.judge(), 0);
        due("nothing again", x.judge(), -9);
        due("somebody and nothing", Check.told("hd00;").judge(), 0);
    }

    /** "z becomes z times 1664525 and 1013904223 (an int)". */
    private static BigInteger next(BigInteger z) {
        return BigInteger.valueOf(z.multiply(BigInteger.valueOf(1664525)).add(BigInteger.valueOf(1013904223)).intValue());
    }

    /** "(z without its sign's bit by 256, cut) modulo m". */
    private static int drawn(BigInteger z, int m) {
        return z.clearBit(31).mod(BigInteger.ONE.shiftLeft(31)).shiftRight(8).mod(BigInteger.valueOf(m)).intValue();
    }

    /** The first of six whistles, the others hear it in the rooms that are drawn for them one by one. */
    private static void seedsOfAllKinds() {
        SongThatStays x = Check.told("ss99;hw00;hb00;hb00;hb00;hb00;hb00;g00;");
        for (int seed : SEEDS) {
            BigInteger z = next(BigInteger.valueOf(seed));
            int room = drawn(z, 5);
            int want = 1;
            for (int head = 1; head < 6; head++) {
                z = next(z);
                want += drawn(z, 5) == room ? 1 : 0;
            }
            due("seeds(1, " + seed + ")", x.seeds(1, seed), want);
        }
        boolean[] all = new boolean[6];
        for (int seed = 0; seed < 300; seed++) {
            SongThatStays y = Check.told("d01;d12;d23;d34;ss99;hw00;hb00;g00;");
            int from = drawn(next(BigInteger.valueOf(seed)), 5);
            int to = drawn(next(next(BigInteger.valueOf(seed))), 5);
            due("doors, seeds(1, " + seed + ")", y.seeds(1, seed), Math.abs(from - to) <= 1 ? 2 : 1);
            all[from] = true;
        }
        due("each room is drawn, and no sixth", all[0] && all[1] && all[2] && all[3] && all[4] && !all[5] ? 1 : 0, 1);
    }

    /** "n HOURS .., ahead of each HEAD by numbers goes into a ROOM": the draws go on from hour to hour. */
    private static void seedsGoOn() {
        SongThatStays x = Check.told("sj99;hw00;hb00;hb00;g00;");
        for (int seed : SEEDS) {
            BigInteger z = BigInteger.valueOf(seed);
            boolean[] has = {true, false, false};
            for (int n = 1; n <= 9; n++) {
                int[] rooms = new int[3];
                for (int head = 0; head < 3; head++) {
                    z = next(z);
                    rooms[head] = drawn(z, 5);
                }
                int want = 1;
                for (int head = 1; head < 3; head++) {
                    has[head] |= rooms[head] == rooms[0];
                    want += has[head] ? 1 : 0;
                }
                due("seeds(" + n + ", " + seed + ")", x.seeds(n, seed), want);
            }
        }
    }

    /** "(1 .. 40)", "in mind". */
    private static void seedsHours() {
        SongThatStays x = Check.told("sl94;hd00;hd00;g00;");
        String before = Check.all(x);
        due("22 by 1, behind 21", x.seeds(21, 5), 1);
        due("22 by 1, behind 22", x.seeds(22, 5), 0);
        due("0", x.seeds(0, 5), -4);
        due("41", x.seeds(41, 5), -6);
        CHECK.due("all is as it was", Check.all(x), before);
        SongThatStays y = Check.told("sc99;sj99;hd00;hd00;hd00;g00;g11;");
        due("the cued one alone is there behind 40", y.seeds(40, -7), 1);
        due("both behind 9", y.seeds(9, -7), 2);
        due("nobody there", new SongThatStays().seeds(40, 1), 0);
        due("nobody has any", Check.told("ss99;hw00;").seeds(1, 1), 0);
        due("the second song is one", Check.told("ss99;ss99;hw00;g01;").seeds(1, 1), 1);
    }

    /** "THE IMAGE is taken: HOUR", "ON from it: HOUR": again and again; a later one is taken in place of it. */
    private static void imageAndOn() {
        SongThatStays x = Check.told("d01;d12;ss53;sl99;hh00;hw11;hd22;g00;g11;o9;");
        x.door(1);
        x.remedy(0, 2);
        x.hour();
        String then = Check.all(x);
        due("on ahead of it", x.on(), -3);
        due("image", x.image(), 1);
        for (int i = 0; i < 2; i++) {
            x.door(0);
            x.go(0, 3);
            x.get(1, 0);
            x.remedy(2, 2);
            x.remedy(0, 0);
            x.loud(20);
            x.hour();
            x.hour();
            due("statements", Check.tell(x, "d23;sh11;hy00;g32;"), 4);
            due("on", x.on(), 1);
            CHECK.due("all is as then", Check.all(x), then);
        }
        due("the shut door", x.door(1), 1);
        due("a later image", x.image(), 1);
        due("on", x.on(), 1);
        due("the door is open then", x.count(3), 2);
    }

    /** "but it, the ROW, letters, REFUSALS". */
    private static void imageIsNotIn() {
        SongThatStays x = Check.told("ss53;hh00;");
        x.row(4);
        x.letter('o');
        x.near(1);
        x.image();
        x.row(5);
        x.letter('3');
        x.near(-1);
        x.near(-1);
        x.loud(0);
        due("on", x.on(), 0);
        due("the row", x.count(8), 2);
        due("letters", x.count(9), 2);
        CHECK.due("refusals", Check.refusals(x), "3 0 0 1 0 0");
        due("it is still there", x.on(), 0);
        x.letter(';');
        due("office", x.office(), 1);
        due("loud", x.count(5), 3);
        due("on", x.on(), 0);
        due("loud as then", x.count(5), 6);
        due("letters then", x.count(9), 0);
    }

    /** "all that there is": nobody, if nobody was; then others may come. */
    private static void imageOfNobody() {
        SongThatStays x = new SongThatStays();
        due("image", x.image(), 0);
        Check.tell(x, "d01;d01;d01;d01;d01;d01;d01;d01;ss53;ss53;ss53;ss53;ss53;");
        Check.tell(x, "hh00;hh00;hh00;hh00;hh00;hh00;g00;o1;");
        for (int head = 0; head < 6; head++) {
            x.remedy(head, 2);
        }
        x.hour();
        due("on", x.on(), 0);
        CHECK.due("nobody", Check.all(x), "0 0 0 0 0 6 0 0 0 0 ");
        due("no head", x.head(0, 0), -1);
        due("no song", x.song(0, 0), -1);
        due("no door", x.door(0), -1);
        due("one comes", Check.tell(x, "hh12;"), 1);
        CHECK.due("as at first", Check.head(x, 0), "0 1 2 -9 0 0 2 0 ");
    }

    /** "11 .. 16 REFUSALS -1 .. -6. -9 for another what"; nothing is refused with -5. */
    private static void counts() {
        SongThatStays x = Check.told("d01;d12;d23;ss53;sl42;hh00;hh00;hh00;hh00;g01;g11;g20;o13;");
        x.door(2);
        x.hour();
        Check.tellRow(x, 1, 2, 3, 4, 5);
        x.letter('d');
        x.letter('0');
        int[] want = {4, 2, 3, 2, 1, 13, 4, 13 + 13 + 11 + 13, 5, 2};
        for (int what = 0; what <= 9; what++) {
            due("count(" + what + ")", x.count(what), want[what]);
        }
        refuse(x, 1, 2, 3, 4, 6);
        int[] refused = {1, 2, 3, 4, 0, 6};
        for (int what = 11; what <= 16; what++) {
            due("count(" + what + ")", x.count(what), refused[what - 11]);
        }
        for (int what : new int[] {-1, -2, 10, 17, 18, Integer.MIN_VALUE, Integer.MAX_VALUE}) {
            due("count(" + what + ")", x.count(what), -9);
        }
        CHECK.due("to ask for it is no refusal", Check.refusals(x), "1 2 3 4 0 6");
    }

    private static void refuse(SongThatStays x, int nobody, int other, int state, int below, int above) {
        for (int i = 0; i < nobody; i++) {
            x.near(4);
        }
        for (int i = 0; i < other; i++) {
            x.head(0, 8);
        }
        for (int i = 0; i < state; i++) {
            x.on();
        }
        for (int i = 0; i < below; i++) {
            x.lasts(-1);
        }
        for (int i = 0; i < above; i++) {
            x.loud(21);
        }
    }
}
