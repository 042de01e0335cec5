/** The bounds of "KINDS of SONGS", "KINDS of HEADS", "NEAR" and "AN HOUR", and of promises 4 to 12: a test for each sentence. */
public final class EdgeHourTest {
    private static final Check CHECK = new Check("EdgeHourTest");

    public static void main(String[] args) {
        freshOfKinds();
        howManyHaveIt();
        fadingOfKinds();
        cuedOnes();
        hymns();
        barOfKinds();
        strengthIsLoudOrMore();
        whistlersHum();
        busyOnesNeverHum();
        youngOnesHum();
        near();
        doorsAndNear();
        goes();
        got();
        ended();
        summed();
        gummed();
        loudness();
        otherThanHisOwn();
        theGreatestPull();
        moreThanHisBar();
        moreThanHisStrength();
        freshInHimThen();
        byHowAllIs();
        gumFades();
        zeroOrBelow();
        hourIsOneMore();
        howManyGotASong();
        CHECK.end();
    }

    private static void due(String call, long got, long want) {
        CHECK.due(call, got, want);
    }

    private static void hourly(String call, SongThatStays x, int got, String songs) {
        due(call + ": hour", x.hour(), got);
        CHECK.due(call, Check.songs(x), songs);
    }

    /** "how strong one is that is heard": least and greatest PULL and LENGTH of each kind. */
    private static void freshOfKinds() {
        String kinds = "slqcjh";
        int[][] want = {{1, 9, 19, 27}, {1, 9, 19, 27}, {4, 12, 22, 30}, {1, 9, 19, 27}, {8, 24, 44, 60}, {1, 9, 19, 27}};
        for (int kind = 0; kind < 6; kind++) {
            String song = "s" + kinds.charAt(kind);
            SongThatStays x = Check.told(song + "01;" + song + "09;" + song + "91;" + song + "99;hh00;");
            for (int i = 0; i < 4; i++) {
                due("kind " + song, x.song(i, 0), kind);
                due("fresh " + song + " " + i, x.song(i, 3), want[kind][i]);
                x.get(0, i);
                due("got " + song + " " + i, x.head(0, 4), want[kind][i]);
            }
        }
    }

    /** song "4 how many have it": none, one, all. */
    private static void howManyHaveIt() {
        SongThatStays x = Check.told("ss53;ss54;hh00;hh00;hh00;hh00;hh00;hh00;");
        for (int head = 0; head < 6; head++) {
            due("have it", x.song(1, 4), head);
            due("have a song", x.count(6), head);
            x.get(head, 1);
        }
        due("all have it", x.song(1, 4), 6);
        due("none has the other", x.song(0, 4), 0);
        x.get(5, 0);
        due("all but one", x.song(1, 4), 5);
        due("one", x.song(0, 4), 1);
    }

    /** "by how much it FADES in an HOUR": of those whose fading is the same in all hours, from hour 0 to 12. */
    private static void fadingOfKinds() {
        SongThatStays x = Check.told("ss99;sl99;sq99;sj99;hd00;hd00;hd00;hd00;g00;g11;g22;g33;");
        int[] strengths = {27, 27, 30, 60};
        int[] fading = {2, 1, 3, 6};
        for (int n = 1; n <= 9; n++) {
            x.hour();
            for (int i = 0; i < 4; i++) {
                due("kind " + i + " behind " + n, x.head(i, 4), strengths[i] - n * fading[i]);
            }
        }
    }

    /** "in HOURS that 6 divides it is 4 stronger in place of that": hours 0, 6, 12; 5 and 7 are none of them. */
    private static void cuedOnes() {
        SongThatStays x = Check.told("sc99;hd00;g00;");
        int[] want = {31, 30, 29, 28, 27, 26, 30, 29, 28, 27, 26, 25, 29, 28};
        for (int n = 0; n < want.length; n++) {
            x.hour();
            due("behind hour " + n, x.head(0, 4), want[n]);
        }
        SongThatStays y = Check.told("sc01;hd00;g00;");
        due("the weakest", y.hold(0, 1, 1), 5);
        y.hour();
        y.get(0, 0);
        hourly("the weakest in hour 1", y, 0, "-9:0");
    }

    /** "0 in odd HOURS, as a LOOPING one else". */
    private static void hymns() {
        SongThatStays x = Check.told("sh02;sh01;hd00;hd00;g00;g11;");
        hourly("hour 0", x, 0, "0:1 -9:0");
        x.get(1, 1);
        hourly("hour 1", x, 0, "0:1 1:1");
        hourly("hour 2", x, 0, "-9:0 -9:0");
    }

    /** "how hard a SONG is for him to get (BAR)": RESIST 0 to 9 of each kind, half of it cut. */
    private static void barOfKinds() {
        int[] half = {0, 0, 1, 1, 2, 2, 3, 3, 4, 4};
        for (int resist = 0; resist <= 9; resist++) {
            SongThatStays x = Check.told("hh0r;hw0r;hd0r;ht0r;hb0r;hy0r;".replace('r', (char) ('0' + resist)));
            int[] want = {resist, resist, 99, half[resist], resist + 3, 0};
            for (int head = 0; head < 6; head++) {
                due("kind", x.head(head, 0), head);
                due("bar of kind " + head + ", resist " + resist, x.head(head, 6), want[head]);
                due("resist of kind " + head, x.head(head, 2), resist);
            }
        }
    }

    /** "STRENGTH is LOUD or more", of a DEAF and a TIRED one, too; without a SONG he is never. */
    private static void strengthIsLoudOrMore() {
        for (char kind : "hdt".toCharArray()) {
            SongThatStays x = Check.told("ss01;ss98;sl91;h" + kind + "00;g00;o1;");
            due(kind + " of strength 1, loud 1", x.head(0, 7), 1);
            x.loud(2);
            due(kind + " of strength 1, loud 2", x.head(0, 7), 0);
            x.get(0, -1);
            x.loud(1);
            due(kind + " without a song, loud 1", x.head(0, 7), 0);
            x.get(0, 2);
            x.loud(20);
            due(kind + " of strength 19, loud 20", x.head(0, 7), 0);
            x.loud(19);
            due(kind + " of strength 19, loud 19", x.head(0, 7), 1);
            x.get(0, 1);
            x.loud(20);
            due(kind + " of strength 26, loud 20", x.head(0, 7), 1);
        }
        SongThatStays y = Check.told("ss98;ss53;hh00;hh00;g00;o20;");
        for (int n = 0; n < 4; n++) {
            hourly("hummed from 20 on", y, n == 0 ? 1 : 0, "0:" + (24 - 2 * n) + " 0:" + (26 - 2 * n));
        }
        y.get(1, -1);
        hourly("18 is not loud", y, 0, "0:16 -9:0");
    }

    /** "he has a SONG", however weak and in any hour. */
    private static void whistlersHum() {
        SongThatStays x = Check.told("ss01;ss11;hw00;hh00;g00;o20;");
        due("strength 1", x.head(0, 7), 1);
        hourly("he hums it, pull 0 is not more than bar 0", x, 0, "-9:0 -9:0");
        due("without a song", x.head(0, 7), 0);
        x.get(0, 1);
        hourly("he hums in an odd hour", x, 1, "1:1 1:3");
    }

    /** "never". */
    private static void busyOnesNeverHum() {
        SongThatStays x = Check.told("sj99;hb00;hh00;g00;o1;");
        for (int n = 0; n < 3; n++) {
            due("strength", x.head(0, 4), 60 - 6 * n);
            due("he hums", x.head(0, 7), 0);
            due("nobody gets it", x.hour(), 0);
        }
    }

    /** "as a WHISTLER, but in even HOURS alone": 0 is even. */
    private static void youngOnesHum() {
        SongThatStays x = Check.told("sl19;hy00;hh00;g00;o20;");
        for (int n = 0; n < 4; n++) {
            due("he hums in hour " + n, x.head(0, 7), n % 2 == 0 ? 1 : 0);
            due("the other gets it in hour " + n, x.hour(), n % 2 == 0 ? 1 : 0);
            x.get(1, -1);
        }
        x.get(0, -1);
        due("without a song in an even hour", x.head(0, 7), 0);
    }

    /** "HEADS in one ROOM, or in ROOMS with an open DOOR between (not himself)"; near "(bits)". */
    private static void near() {
        due("alone", Check.told("hh00;").near(0), 0);
        due("alone at a door", Check.told("d01;d01;hh00;").near(0), 0);
        SongThatStays x = Check.told("hh30;hh30;hh30;hh30;hh30;hh30;");
        for (int head = 0; head < 6; head++) {
            due("all but himself", x.near(head), 63 - (1 << head));
        }
        SongThatStays y = Check.told("d01;d04;hh00;hh10;hh40;hh20;");
        due("both behind his doors", y.near(0), 6);
        due("not the one behind two doors", y.near(1), 1);
        due("not the one behind two doors, either", y.near(2), 1);
        due("the one without a door", y.near(3), 0);
    }

    /** door: "It is shut (answer 0), or opened (1)"; a door may be told from either side, and twice. */
    private static void doorsAndNear() {
        SongThatStays x = Check.told("d41;d14;hh10;hh40;");
        due("both open", x.near(0), 2);
        due("shut", x.door(0), 0);
        due("the other is open", x.near(0), 2);
        due("shut, too", x.door(1), 0);
        due("near from one side", x.near(0), 0);
        due("near from the other", x.near(1), 0);
        due("opened", x.door(1), 1);
        due("near from the other again", x.near(1), 1);
        due("opened, too", x.door(0), 1);
        due("open ones", x.count(3), 2);
    }

    /** "He goes into a ROOM: where he was". */
    private static void goes() {
        SongThatStays x = Check.told("ss53;hh00;hh00;g00;");
        due("to the greatest", x.go(0, 4), 0);
        due("where he is", x.go(0, 4), 4);
        due("the other stays", x.head(1, 1), 0);
        due("back to the least", x.go(0, 0), 4);
        due("there", x.head(0, 1), 0);
        CHECK.due("his song goes with him", Check.songs(x), "0:13 -9:0");
    }

    /** "He has got it (FRESH); song -1: he has none: what he had (-9)": whatever his BAR and STRENGTH are. */
    private static void got() {
        SongThatStays x = Check.told("ss01;sj99;hd09;");
        due("he had none", x.get(0, 1), -9);
        due("he had the strong one", x.get(0, 0), 1);
        due("it is fresh", x.head(0, 4), 1);
        due("he had the weak one", x.get(0, -1), 0);
        due("he had none", x.get(0, -1), -9);
        due("nobody has any", x.count(6), 0);
    }

    /** "his STRENGTH is half, cut (0: he has none then)". */
    private static void ended() {
        int[][] halves = {{1, 0}, {2, 1}, {3, 1}, {4, 2}, {9, 4}};
        for (int[] half : halves) {
            SongThatStays x = Check.told("ss0" + half[0] + ";hh00;g00;");
            due("half of " + half[0], x.remedy(0, 0), half[1]);
            due("his song", x.head(0, 3), half[1] == 0 ? -9 : 0);
            due("his strength", x.head(0, 4), half[1]);
        }
    }

    /** "4 less, 0 at least (he has none then)". */
    private static void summed() {
        for (int strength = 1; strength <= 9; strength++) {
            SongThatStays x = Check.told("ss0" + strength + ";hh00;g00;");
            int want = strength <= 4 ? 0 : strength - 4;
            due("4 less than " + strength, x.remedy(0, 1), want);
            due("his song", x.head(0, 3), want == 0 ? -9 : 0);
            due("his strength", x.head(0, 4), want);
            due("again, if he has one", x.remedy(0, 1), want == 0 ? -3 : want <= 4 ? 0 : want - 4);
        }
    }

    /** "3 HOURS of it"; remedy answers "STRENGTH then", 0 of one who has no SONG; END and SUMS leave it. */
    private static void gummed() {
        SongThatStays x = Check.told("ss53;hh00;");
        due("no song", x.remedy(0, 2), 0);
        due("gum", x.head(0, 5), 3);
        x.hour();
        due("gum an hour later", x.head(0, 5), 2);
        x.get(0, 0);
        due("gum of one who has got a song", x.head(0, 5), 2);
        x.remedy(0, 0);
        x.remedy(0, 1);
        due("gum of one who takes the others", x.head(0, 5), 2);
        due("three hours again", x.remedy(0, 2), 2);
        due("gum again", x.head(0, 5), 3);
    }

    /** loud "what it was". */
    private static void loudness() {
        SongThatStays x = new SongThatStays();
        due("at first", x.loud(1), 6);
        for (int v = 2; v <= 20; v++) {
            due("loud " + v, x.loud(v), v - 1);
        }
        due("20", x.count(5), 20);
        due("the same", x.loud(20), 20);
    }

    /** "each HEARS the SONGS that those NEAR HUM, other than his own". */
    private static void otherThanHisOwn() {
        SongThatStays x = Check.told("ss93;ss13;hd00;hd00;hh00;g00;g11;g20;");
        x.remedy(2, 0);
        x.remedy(2, 0);
        due("his own is weak", x.head(2, 4), 5);
        hourly("his own pulls more, but he doesn't hear it; the other is not stronger", x, 0, "0:19 1:3 0:3");
        x.get(1, 1);
        x.loud(5);
        hourly("the other is stronger", x, 1, "0:17 1:3 1:5");
    }

    /** "of these that with the greatest PULL (of several the least) he gets": whoever hums it, whatever its length. */
    private static void theGreatestPull() {
        SongThatStays x = Check.told("ss41;ss51;ss31;hd00;hd00;hd00;hh00;g00;g11;g22;");
        hourly("the one in the middle", x, 1, "0:7 1:9 2:5 1:11");
        SongThatStays y = Check.told("ss51;ss59;hd00;hd00;hh00;g01;g10;");
        hourly("of several the least song, not the least head", y, 1, "1:17 0:9 0:11");
        SongThatStays z = Check.told("ss59;ss51;hd00;hd00;hh00;g01;g10;");
        hourly("of several the least, the other way", z, 1, "1:9 0:17 0:19");
        SongThatStays v = Check.told("ss61;sj56;hd00;hd00;hh00;hh00;g00;g11;g30;");
        hourly("not the strongest", v, 2, "0:11 1:32 0:13 1:38");
        SongThatStays w = Check.told("ss61;sj56;sq52;hd00;hd00;hh00;g00;g11;g22;");
        hourly("it can't drive his own out, the other one is not tried", w, 0, "0:11 1:32 2:12");
    }

    /** "if PULL is more than his BAR": one more does, as much does not. */
    private static void moreThanHisBar() {
        for (int pull = 0; pull <= 9; pull++) {
            for (int resist = 0; resist <= 9; resist++) {
                String text = "ss" + pull + "9;hw00;g00;hh0r;hw0r;hd0r;ht0r;hb0r;";
                SongThatStays x = Check.told(text.replace('r', (char) ('0' + resist)));
                x.hour();
                int[] bars = {resist, resist, 99, resist / 2, resist + 3};
                for (int i = 0; i < 5; i++) {
                    due("pull " + pull + ", bar " + bars[i], x.head(i + 1, 3), pull > bars[i] ? 0 : -9);
                }
            }
        }
        due("young, pull 0", Check.told("ss09;hw00;hy09;g00;").hour(), 0);
        due("young, pull 1", Check.told("ss19;hw00;hy09;g00;").hour(), 1);
    }

    /** "FRESH of it is more than his STRENGTH": one more does, as much does not. */
    private static void moreThanHisStrength() {
        for (int length = 1; length <= 9; length++) {
            SongThatStays x = Check.told("ss5" + length + ";ss53;hd00;hb00;g00;g11;");
            boolean gets = length > 3;
            hourly("fresh " + (10 + length) + " against 13", x, gets ? 1 : 0,
                    "0:" + (8 + length) + (gets ? " 0:" + (10 + length) : " 1:11"));
        }
        SongThatStays y = Check.told("sj99;sj99;hw00;hb00;g00;g11;");
        hourly("60 against 60", y, 0, "0:54 1:54");
        hourly("60 against 54", y, 1, "0:48 0:60");
    }

    /** "it is FRESH in him then": however weak it is in him who hums it. */
    private static void freshInHimThen() {
        SongThatStays x = Check.told("ss53;hw00;hb00;g00;");
        x.remedy(0, 1);
        x.remedy(0, 1);
        x.remedy(0, 1);
        due("1 left", x.head(0, 4), 1);
        hourly("hummed at last, and gone", x, 1, "-9:0 0:13");
    }

    /** "all HUM who do, by how all is": what one gets in an hour he hums in the next; what he loses he has hummed. */
    private static void byHowAllIs() {
        SongThatStays x = Check.told("d01;d12;d23;d34;ss91;hw00;hw10;hw20;hw30;hw40;g00;");
        for (int n = 1; n <= 4; n++) {
            due("one more in hour " + n, x.hour(), 1);
            due("he is the next", x.head(n, 4), 19);
        }
        SongThatStays y = Check.told("ss51;ss52;hw00;hw00;g00;g11;");
        y.remedy(0, 0);
        y.remedy(1, 0);
        hourly("each has the other's", y, 2, "1:12 0:11");
    }

    /** "Who gets none: his SONG FADES (and by 1 more, if he has GUM; CUED ones in such HOURS, too)"; "GUM is 1 less". */
    private static void gumFades() {
        SongThatStays x = Check.told("ss99;sc99;sh99;hd00;hd00;hd00;g00;g11;g22;");
        for (int head = 0; head < 3; head++) {
            x.remedy(head, 2);
        }
        hourly("gum 3", x, 0, "0:24 1:30 2:25");
        hourly("gum 2", x, 0, "0:21 1:28 2:24");
        hourly("gum 1", x, 0, "0:18 1:26 2:22");
        hourly("gum 0", x, 0, "0:16 1:25 2:22");
        SongThatStays y = Check.told("ss99;ss53;hw00;hb00;g00;g11;");
        y.remedy(1, 2);
        hourly("who gets one does not fade", y, 1, "0:25 0:27");
        due("gum of who got one", y.head(1, 5), 2);
    }

    /** "0 or below: he has none"; 1 is above. */
    private static void zeroOrBelow() {
        for (int strength = 1; strength <= 4; strength++) {
            SongThatStays x = Check.told("ss0" + strength + ";hd00;g00;");
            hourly("strength " + strength, x, 0, strength > 2 ? "0:" + (strength - 2) : "-9:0");
            SongThatStays y = Check.told("ss0" + strength + ";hd00;g00;");
            y.remedy(0, 2);
            hourly("strength " + strength + " with gum", y, 0, strength > 3 ? "0:" + (strength - 3) : "-9:0");
        }
        SongThatStays z = Check.told("sj01;hd00;g00;");
        hourly("jingle of 8", z, 0, "0:2");
        hourly("jingle of 2", z, 0, "-9:0");
    }

    /** "HOUR is 1 more", "(even, odd, divided by 6 as HOUR is ahead of it)". */
    private static void hourIsOneMore() {
        SongThatStays x = Check.told("sc99;sh99;hd00;hd00;g00;g11;");
        for (int n = 0; n < 14; n++) {
            due("hour ahead", x.count(4), n);
            int cued = x.head(0, 4);
            int hymn = x.head(1, 4);
            x.hour();
            due("cued in hour " + n, x.head(0, 4) - cued, n == 0 || n == 6 || n == 12 ? 4 : -1);
            due("hymn in hour " + n, x.head(1, 4) - hymn, n % 2 == 0 ? -1 : 0);
        }
        due("hour", x.count(4), 14);
    }

    /** hour: "how many got a SONG": 0 at least, all but one who hums it, all who change. */
    private static void howManyGotASong() {
        due("nobody there", new SongThatStays().hour(), 0);
        due("nobody has any", Check.told("ss53;hh00;hh00;").hour(), 0);
        due("all have it", Check.told("ss53;hh00;hh00;g00;g10;").hour(), 0);
        due("five", Check.told("ss53;hh00;hh00;hh00;hh00;hh00;hh00;g00;").hour(), 5);
        SongThatStays x = Check.told("ss51;ss52;hw00;hw00;hw00;hw00;hw00;hw00;g00;g10;g20;g31;g41;g51;");
        for (int head = 0; head < 6; head++) {
            x.remedy(head, 0);
        }
        due("all six", x.hour(), 6);
    }
}
