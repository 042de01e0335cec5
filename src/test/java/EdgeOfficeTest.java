/** The bounds of the document's terms up to "AN OFFICE", and of promises 1 to 3: a test for each sentence. */
public final class EdgeOfficeTest {
    private static final Check CHECK = new Check("EdgeOfficeTest");
    private static final String EMPTY = "0 0 0 0 0 6 0 0 0 0 ";
    private static final String DIGITS = "0123456789";

    public static void main(String[] args) {
        rooms();
        doorsAtMost();
        doorsBetweenUnlikeRooms();
        doorsOpenAtFirst();
        songsAtMost();
        songNumbers();
        headsAtMost();
        headNumbers();
        headsAtFirst();
        strengthWithoutASong();
        greatestStrength();
        gumAtMost();
        hourAtFirst();
        loudNumbers();
        lettersAtMost();
        numbersMayBeginWith0();
        atLeastOneStatement();
        noOfficeCanGoOn();
        somethingLacks();
        kind1AheadOfKind2();
        kind2IsTheFirstStatement();
        behindAllAheadOfIt();
        withFaultNothing();
        lettersAreNoMore();
        gotInText();
        CHECK.end();
    }

    private static void due(String call, long got, long want) {
        CHECK.due(call, got, want);
    }

    private static int office(String text) {
        return Check.tell(new SongThatStays(), text);
    }

    private static void fault(String text, int want) {
        SongThatStays x = new SongThatStays();
        due("office " + text, Check.tell(x, text), want);
        CHECK.due("nothing comes with " + text, Check.all(x), EMPTY);
        CHECK.due("nothing is counted with " + text, Check.refusals(x), "0 0 0 0 0 0");
    }

    /** "ROOMS 0 .. 4"; "Five ROOMS, nobody". */
    private static void rooms() {
        CHECK.due("nobody", Check.all(new SongThatStays()), EMPTY);
        for (int room = 0; room <= 9; room++) {
            boolean is = room <= 4;
            due("a head in room " + room, office("hh" + room + "0;"), is ? 1 : -2000);
            due("a door from room " + room, office("d" + room + (room == 0 ? 1 : 0) + ";"), is ? 1 : -2000);
            due("a door to room " + room, office("d" + (room == 0 ? 1 : 0) + room + ";"), is ? 1 : -2000);
            SongThatStays x = Check.told("hh20;");
            due("he goes into room " + room, x.go(0, room), is ? 2 : -1);
            due("he is there", x.head(0, 1), is ? room : 2);
        }
    }

    /** "DOORS 0 .. 7 as they come (8 at most)"; "no room for more". */
    private static void doorsAtMost() {
        SongThatStays x = new SongThatStays();
        due("eight doors in one text", Check.tell(x, "d01;d02;d03;d04;d12;d13;d14;d23;hh20;hh30;"), 10);
        due("eight doors", x.count(2), 8);
        due("the last is between 2 and 3", x.near(0), 2);
        due("door 7", x.door(7), 0);
        due("it was that one", x.near(0), 0);
        due("door 8", x.door(8), -1);
        due("a ninth in a later text", Check.tell(x, "d24;"), -2000);
        due("a shut one is one, too", x.count(2), 8);
        due("the seventh is there", x.door(6), 0);
        fault("d01;d01;d01;d01;d01;d01;d01;d01;d01;", -2032);
        due("eight alike", office("d01;d01;d01;d01;d01;d01;d01;d01;"), 8);
    }

    /** "each between two unlike ROOMS". */
    private static void doorsBetweenUnlikeRooms() {
        for (int a = 0; a <= 4; a++) {
            for (int b = 0; b <= 4; b++) {
                String text = "d" + a + b + ";";
                due("office " + text, office(text), a == b ? -2000 : 1);
            }
        }
    }

    /** "open (at first) or shut". */
    private static void doorsOpenAtFirst() {
        SongThatStays x = Check.told("d01;d12;");
        due("open ones", x.count(3), 2);
        due("the first is shut", x.door(0), 0);
        Check.tell(x, "d23;");
        due("a door more is open", x.count(3), 2);
        due("all shut", x.door(1) + x.door(2), 0);
        due("no open ones", x.count(3), 0);
        due("doors", x.count(2), 3);
    }

    /** "SONGS 0 .. 4 as they come (5 at most)". */
    private static void songsAtMost() {
        SongThatStays x = new SongThatStays();
        due("five songs", Check.tell(x, "ss11;ss12;ss13;ss14;ss15;hh00;g04;"), 7);
        due("songs", x.count(1), 5);
        due("the last as it came", x.song(4, 2), 5);
        due("song 5", x.song(5, 2), -1);
        due("he has the last", x.head(0, 3), 4);
        due("a sixth in a later text", Check.tell(x, "ss16;"), -2000);
        due("songs then", x.count(1), 5);
        fault("ss11;ss11;ss11;ss11;ss11;ss11;", -2025);
    }

    /** "PULL (0 .. 9), LENGTH (1 .. 9 bars)". */
    private static void songNumbers() {
        for (int digit = 0; digit <= 9; digit++) {
            SongThatStays x = Check.told("ss" + digit + "1;");
            due("pull " + digit, x.song(0, 1), digit);
            due("length " + digit, office("ss1" + digit + ";"), digit == 0 ? -2000 : 1);
            if (digit > 0) {
                due("length " + digit, Check.told("ss1" + digit + ";").song(0, 2), digit);
            }
        }
    }

    /** "HEADS 0 .. 5 as they come (6 at most)". */
    private static void headsAtMost() {
        SongThatStays x = new SongThatStays();
        due("six heads", Check.tell(x, "ss11;hh00;hh01;hh02;hh03;hh04;hh05;g50;"), 8);
        due("heads", x.count(0), 6);
        due("the last as he came", x.head(5, 2), 5);
        due("he has it", x.head(5, 3), 0);
        due("head 6", x.head(6, 2), -1);
        due("he is near all others", x.near(5), 31);
        due("a seventh in a later text", Check.tell(x, "hh06;"), -2000);
        due("heads then", x.count(0), 6);
        fault("hh00;hh00;hh00;hh00;hh00;hh00;hh00;", -2030);
    }

    /** "RESIST (0 .. 9)". */
    private static void headNumbers() {
        for (int digit = 0; digit <= 9; digit++) {
            due("resist " + digit, Check.told("hh0" + digit + ";").head(0, 2), digit);
        }
    }

    /** "a SONG or none (at first)"; "0 without a SONG"; "GUM (0 at first)". */
    private static void headsAtFirst() {
        for (char kind : "hwdtby".toCharArray()) {
            SongThatStays x = Check.told("ss11;h" + kind + "00;");
            due(kind + " has no song", x.head(0, 3), -9);
            due(kind + " has strength 0", x.head(0, 4), 0);
            due(kind + " has no gum", x.head(0, 5), 0);
            due(kind + " is nobody with a song", x.count(6), 0);
        }
    }

    /** "STRENGTH (0 .. 60; 0 without a SONG)": however he came to have none. */
    private static void strengthWithoutASong() {
        SongThatStays x = Check.told("ss53;ss01;hh00;g00;");
        x.get(0, -1);
        due("told that he has none", x.head(0, 4), 0);
        x.get(0, 1);
        x.hour();
        due("faded", x.head(0, 4), 0);
        due("faded, no song", x.head(0, 3), -9);
        x.get(0, 1);
        due("half of 1", x.remedy(0, 0), 0);
        due("half of 1, no song", x.head(0, 3), -9);
        x.get(0, 1);
        due("4 less than 1", x.remedy(0, 1), 0);
        due("4 less than 1, no song", x.head(0, 3), -9);
        due("all strength", x.count(7), 0);
        x.hour();
        due("an hour later", x.head(0, 4), 0);
    }

    /** "STRENGTH (0 .. 60 ..)": the greatest there is, for each head. */
    private static void greatestStrength() {
        SongThatStays x = Check.told("sj99;hd00;hd10;hd20;hd30;hd40;hd00;g00;g10;g20;g30;g40;g50;");
        for (int head = 0; head < 6; head++) {
            due("strength of " + head, x.head(head, 4), 60);
        }
        due("all strength", x.count(7), 360);
        due("half of 60", x.remedy(0, 0), 30);
        due("4 less than 60", x.remedy(1, 1), 56);
        due("60 and gum", x.remedy(2, 2), 60);
    }

    /** "GUM (0 .. 3 HOURS ..)": three at most, however often he gets it. */
    private static void gumAtMost() {
        SongThatStays x = Check.told("hh00;");
        x.remedy(0, 2);
        x.remedy(0, 2);
        due("gum twice", x.head(0, 5), 3);
        for (int left = 2; left >= 0; left--) {
            x.hour();
            due("gum left", x.head(0, 5), left);
        }
        x.hour();
        due("none below 0", x.head(0, 5), 0);
    }

    /** "HOUR (0 .. 999: 0 at first)". */
    private static void hourAtFirst() {
        SongThatStays x = new SongThatStays();
        due("hour", x.count(4), 0);
        due("image of it", x.image(), 0);
        due("nobody got a song", x.hour(), 0);
        due("hour then", x.count(4), 1);
    }

    /** "LOUD (1 .. 20: 6 at first)"; "o" LOUD "(1 or 2 digits)". */
    private static void loudNumbers() {
        due("at first", new SongThatStays().count(5), 6);
        for (int v = 0; v <= 99; v++) {
            SongThatStays x = new SongThatStays();
            boolean is = v >= 1 && v <= 20;
            due("office o" + v + ";", Check.tell(x, "o" + v + ";"), is ? 1 : -2000);
            due("loud " + v, x.count(5), is ? v : 6);
        }
        fault("o;", -1001);
        fault("o001;", -1003);
        fault("o100;", -1003);
    }

    /** "told in letters, one by one (96 at most)"; letter "-6 (.. 96, too)". */
    private static void lettersAtMost() {
        SongThatStays x = new SongThatStays();
        due("none", x.count(9), 0);
        String text = "o05;".repeat(23) + "o1;;";
        for (int i = 0; i < 96; i++) {
            due("letter " + (i + 1), x.letter(text.charAt(i)), i + 1);
        }
        due("letters", x.count(9), 96);
        due("one more", x.letter(';'), -6);
        due("letters still", x.count(9), 96);
        due("the last is no statement", x.office(), -1095);
        SongThatStays y = new SongThatStays();
        due("96 letters", Check.tell(y, "d01;o05;".repeat(8) + "ss53;hh00;g00;o10;o11;o12;o3;o4;"), 24);
        due("all came, loud", y.count(5), 4);
        due("all came, his song", y.head(0, 3), 0);
        due("letters are free again", y.letter('o'), 1);
    }

    /** "Numbers may begin with 0". */
    private static void numbersMayBeginWith0() {
        for (int v = 1; v <= 9; v++) {
            SongThatStays x = new SongThatStays();
            due("office o0" + v + ";", Check.tell(x, "o0" + v + ";"), 1);
            due("loud", x.count(5), v);
        }
        fault("o00;", -2000);
        fault("o0;", -2000);
    }

    /** "At least one STATEMENT". */
    private static void atLeastOneStatement() {
        fault("", -1000);
        fault(";", -1000);
        due("one", office("o1;"), 1);
        SongThatStays x = Check.told("o9;");
        due("none behind an office", x.office(), -1000);
        due("loud stays", x.count(5), 9);
    }

    /** What may stand at each place of each statement; its own first letter stands ahead. */
    private static final String[][] STATEMENTS = {
        {"d", DIGITS, DIGITS, ";"}, {"s", "slqcjh", DIGITS, DIGITS, ";"}, {"h", "hwdtby", DIGITS, DIGITS, ";"},
        {"g", DIGITS, DIGITS, ";"}, {"o", DIGITS, DIGITS + ";", ";"}};

    /** "kind 1 the place of the first letter with which no OFFICE can go on": each letter at each place. */
    private static void noOfficeCanGoOn() {
        for (String ahead : new String[] {"", "o5;", "d01;ss11;hh11;"}) {
            for (int c = 0; c <= 255; c++) {
                boolean may = "dshgo".indexOf(c) >= 0;
                due(ahead + " letter " + c, office(ahead + (char) c), -1000 - ahead.length() - (may ? 1 : 0));
            }
            for (String[] statement : STATEMENTS) {
                String start = ahead + statement[0];
                for (int place = 1; place < statement.length; place++) {
                    goOn(start, statement[place]);
                    start += statement[place].charAt(statement[0].equals("d") && place == 2 ? 1 : 0);
                }
            }
        }
    }

    /** A letter that may not stand there is the fault; with one that may something lacks behind it. */
    private static void goOn(String start, String may) {
        for (int c = 0; c <= 255; c++) {
            boolean is = may.indexOf(c) >= 0;
            if (!is || c != ';') {
                due(start + " letter " + c, office(start + (char) c), -1000 - start.length() - (is ? 1 : 0));
            }
        }
    }

    /** "(the end, if something lacks)": each statement cut off at each place, alone and behind others. */
    private static void somethingLacks() {
        for (String ahead : new String[] {"", "o5;", "d01;ss11;hh11;"}) {
            for (String whole : new String[] {"d01;", "ss11;", "sh99;", "hh00;", "hy49;", "g00;", "o1;", "o20;"}) {
                for (int end = 1; end < whole.length(); end++) {
                    String text = ahead + whole.substring(0, end);
                    due("office " + text, office(text), -1000 - text.length());
                }
            }
        }
        due("95 letters lack one", office("o05;".repeat(23) + "o05"), -1095);
        due("96 letters lack one", office("o05;".repeat(23) + "o5;o"), -1096);
    }

    /** "FAULT: kind 1 ..; else kind 2": the one of letters comes first, though it stands behind. */
    private static void kind1AheadOfKind2() {
        fault("d00;", -2000);
        fault("d00;x", -1004);
        fault("d00;o1", -1006);
        fault("g00;ss10;hh50;o21;?", -1018);
        fault("ss10", -1004);
        fault("o0", -1002);
    }

    /** "the place of the first letter of the first STATEMENT that .. is not as it must be". */
    private static void kind2IsTheFirstStatement() {
        fault("o1;o0;d00;", -2003);
        fault("o01;o20;o21;o0;", -2008);
        fault("d01;ss53;ss50;hh00;hh50;", -2009);
        fault("d01;ss53;hh00;hh50;ss50;", -2014);
        due("the last of 96 letters", office("o05;".repeat(23) + "o21;"), -2092);
        due("the first of 96 letters", office("o21;" + "o05;".repeat(23)), -2000);
    }

    /** "that, behind all ahead of it in the text, is not as it must be (.. no such HEAD, SONG ahead of it ..)". */
    private static void behindAllAheadOfIt() {
        due("both ahead", office("ss11;hh00;g00;"), 3);
        fault("hh00;g00;ss11;", -2005);
        fault("ss11;g00;hh00;", -2005);
        fault("ss11;hh00;g10;", -2010);
        fault("ss11;hh00;g01;", -2010);
        fault("ss11;hh00;g01;ss12;", -2010);
        fault("ss11;hh00;g10;hh00;", -2010);
        due("the second of each", office("ss11;hh00;ss12;hh00;g11;"), 5);
        SongThatStays x = Check.told("ss11;");
        due("the song in a text before", Check.tell(x, "hh00;g00;"), 2);
        due("the head in a text before", Check.tell(x, "ss12;g01;"), 2);
        due("both before", Check.tell(x, "g00;"), 1);
        due("no such head", Check.tell(x, "g10;"), -2000);
        due("no such song", Check.tell(x, "g02;"), -2000);
        due("he has the first", x.head(0, 3), 0);
        fault("hh00;g90;", -2005);
    }

    /** "Without FAULT all of it comes, with one nothing". */
    private static void withFaultNothing() {
        SongThatStays x = Check.told("d01;ss53;hh00;hh00;g00;o7;");
        x.hour();
        String before = Check.all(x);
        due("a fault at the end", Check.tell(x, "d12;ss99;hh11;g01;g10;o3;o0;"), -2025);
        CHECK.due("nothing came", Check.all(x), before);
        due("a letter's fault at the end", Check.tell(x, "d12;ss99;hh11;g01;g10;o3;o"), -1026);
        CHECK.due("nothing came then", Check.all(x), before);
        due("without", Check.tell(x, "d12;ss99;hh11;g01;g10;o3;"), 6);
        CHECK.due("all came", Check.all(x), "3 2 2 2 1 3 2 40 0 0 | 0 5 3 13 1 | 0 9 9 27 1 "
                + "/ 0 0 0 1 27 0 0 1 6 / 0 0 0 0 13 0 0 1 5 / 0 1 1 -9 0 0 1 0 3 ");
    }

    /** "The letters become an OFFICE, and are no more (with a FAULT neither)". */
    private static void lettersAreNoMore() {
        for (String text : new String[] {"o5;", "o5", "o0;", ""}) {
            SongThatStays x = new SongThatStays();
            Check.tell(x, text);
            due("letters behind office " + text, x.count(9), 0);
            due("nothing of " + text + " is left", Check.tell(x, "7;"), -1000);
            due("the next behind " + text, Check.tell(x, "o8;"), 1);
            due("loud", x.count(5), 8);
        }
    }

    /** "he has got it (STRENGTH as one that is heard)": in place of his own, though it is stronger; gum stays. */
    private static void gotInText() {
        SongThatStays x = Check.told("sj99;ss01;hd00;g00;");
        due("the strong one", x.remedy(0, 2), 60);
        due("told the weak one", Check.tell(x, "g01;"), 1);
        CHECK.due("he has it, and gum", Check.head(x, 0), "2 0 0 1 1 3 99 0 ");
        Check.tell(x, "g00;");
        x.remedy(0, 0);
        due("told his own again", Check.tell(x, "g00;"), 1);
        due("it is fresh", x.head(0, 4), 60);
    }
}
