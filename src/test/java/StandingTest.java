/** Promises 4 to 11: what songs and heads are like, who is near, and what changes them at once. */
public final class StandingTest {
    private static final Check CHECK = new Check("StandingTest");

    public static void main(String[] args) {
        songs();
        heads();
        humming();
        near();
        doors();
        go();
        get();
        remedy();
        loud();
        CHECK.end();
    }

    private static void due(String call, long got, long want) {
        CHECK.due(call, got, want);
    }

    private static void songs() {
        SongThatStays x = Check.told("ss53;sl42;sq64;sc51;sj99;hh00;hw00;g04;g14;");
        int[][] want = {{0, 5, 3, 13, 0}, {1, 4, 2, 10, 0}, {2, 6, 4, 19, 0}, {3, 5, 1, 11, 0}, {4, 9, 9, 60, 2}};
        for (int song = 0; song < 5; song++) {
            for (int what = 0; what < 5; what++) {
                due("song(" + song + ", " + what + ")", x.song(song, what), want[song][what]);
            }
        }
        SongThatStays y = Check.told("sh01;sh99;");
        due("hymn", y.song(0, 0), 5);
        due("hymn fresh", y.song(0, 3), 1);
        due("longest hymn fresh", y.song(1, 3), 27);
    }

    private static void heads() {
        SongThatStays x = Check.told("ss53;hh09;hw19;hd29;ht39;hb49;hy09;g00;");
        due("bar of a head", x.head(0, 6), 9);
        due("bar of a whistler", x.head(1, 6), 9);
        due("bar of a deaf one", x.head(2, 6), 99);
        due("bar of a tired one", x.head(3, 6), 4);
        due("bar of a busy one", x.head(4, 6), 12);
        due("bar of a young one", x.head(5, 6), 0);
        for (int head = 0; head < 6; head++) {
            due("kind", x.head(head, 0), head);
            due("room", x.head(head, 1), head % 5);
            due("resist", x.head(head, 2), 9);
            due("song", x.head(head, 3), head == 0 ? 0 : -9);
            due("strength", x.head(head, 4), head == 0 ? 13 : 0);
            due("gum", x.head(head, 5), 0);
            due("hums", x.head(head, 7), head == 0 ? 1 : 0);
        }
    }

    private static void humming() {
        SongThatStays x = Check.told("ss31;hh00;hw00;hd00;ht00;hb00;hy00;g00;g10;g20;g30;g40;g50;o7;");
        int[] asLoud = {1, 1, 1, 1, 0, 1};
        for (int head = 0; head < 6; head++) {
            due("strength is loud: " + head, x.head(head, 7), asLoud[head]);
        }
        x.loud(8);
        int[] less = {0, 1, 0, 0, 0, 1};
        for (int head = 0; head < 6; head++) {
            due("strength is less than loud: " + head, x.head(head, 7), less[head]);
        }
        x.hour();
        due("whistler in an odd hour", x.head(1, 7), 1);
        due("young one in an odd hour", x.head(5, 7), 0);
        x.hour();
        due("young one in an even hour", x.head(5, 7), 1);
        x.get(5, -1);
        x.get(1, -1);
        due("young one without a song", x.head(5, 7), 0);
        due("whistler without a song", x.head(1, 7), 0);
    }

    private static void near() {
        SongThatStays x = Check.told("d01;d12;d34;d43;hh00;hh00;hh10;hh20;hh30;hh40;");
        due("near 0", x.near(0), 0b000110);
        due("near 1", x.near(1), 0b000101);
        due("near 2", x.near(2), 0b001011);
        due("near 3", x.near(3), 0b000100);
        due("near 4", x.near(4), 0b100000);
        due("near 5", x.near(5), 0b010000);
        x.door(0);
        due("near 0, door shut", x.near(0), 0b000010);
        due("near 2, door shut", x.near(2), 0b001000);
        x.door(2);
        due("near 4, one of two doors shut", x.near(4), 0b100000);
        x.door(3);
        due("near 4, both shut", x.near(4), 0);
        due("near 5, both shut", x.near(5), 0);
    }

    private static void doors() {
        SongThatStays x = Check.told("d01;d12;");
        due("shut", x.door(0), 0);
        due("one is open", x.count(3), 1);
        due("shut the other", x.door(1), 0);
        due("none is open", x.count(3), 0);
        due("opened", x.door(0), 1);
        due("one is open again", x.count(3), 1);
        due("both are there", x.count(2), 2);
    }

    private static void go() {
        SongThatStays x = Check.told("hh20;hh00;");
        due("go", x.go(0, 4), 2);
        due("room", x.head(0, 1), 4);
        due("go where he is", x.go(0, 4), 4);
        due("go to the least room", x.go(0, 0), 4);
        due("near then", x.near(1), 1);
    }

    private static void get() {
        SongThatStays x = Check.told("ss53;sj11;hd00;");
        due("get", x.get(0, 1), -9);
        CHECK.due("fresh", Check.songs(x), "1:12");
        x.remedy(0, 1);
        x.remedy(0, 2);
        due("get his own", x.get(0, 1), 1);
        CHECK.due("fresh again", Check.songs(x), "1:12");
        due("gum stays", x.head(0, 5), 3);
        due("get another", x.get(0, 0), 1);
        CHECK.due("another", Check.songs(x), "0:13");
        due("get none", x.get(0, -1), 0);
        CHECK.due("none", Check.songs(x), "-9:0");
        due("get none once more", x.get(0, -1), -9);
    }

    private static void remedy() {
        SongThatStays x = Check.told("ss53;hh00;g00;");
        due("end", x.remedy(0, 0), 6);
        due("sums", x.remedy(0, 1), 2);
        due("end of 2", x.remedy(0, 0), 1);
        due("he has it", x.head(0, 3), 0);
        due("end of 1", x.remedy(0, 0), 0);
        due("he has none", x.head(0, 3), -9);
        due("gum without a song", x.remedy(0, 2), 0);
        due("gum", x.head(0, 5), 3);
        x.get(0, 0);
        due("gum with a song", x.remedy(0, 2), 13);
        due("sums", x.remedy(0, 1), 9);
        due("sums", x.remedy(0, 1), 5);
        due("sums", x.remedy(0, 1), 1);
        due("sums of less than 4", x.remedy(0, 1), 0);
        due("he has none then", x.head(0, 3), -9);
        x.get(0, 0);
        x.remedy(0, 0);
        due("sums of 6", x.remedy(0, 1), 2);
        x.get(0, 0);
        for (int want = 9; want >= 1; want -= 4) {
            due("sums", x.remedy(0, 1), want);
        }
        SongThatStays y = Check.told("ss11;ss12;hh00;g01;");
        due("sums of just 4", y.remedy(0, 1), 0);
        due("none is left", y.count(6), 0);
    }

    private static void loud() {
        SongThatStays x = new SongThatStays();
        due("loud at first", x.loud(1), 6);
        due("least", x.loud(20), 1);
        due("greatest", x.loud(7), 20);
        due("loud", x.count(5), 7);
    }
}
