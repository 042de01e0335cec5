/** Promise 12: an hour, and what of it the kinds decide. */
public final class HourTest {
    private static final Check CHECK = new Check("HourTest");

    public static void main(String[] args) {
        fading();
        fadingWithGum();
        gum();
        bars();
        strengths();
        atOnce();
        thePullDecides();
        whoHums();
        whoHears();
        theLastHour();
        CHECK.end();
    }

    private static void due(String call, long got, long want) {
        CHECK.due(call, got, want);
    }

    private static void hourly(String call, SongThatStays x, int got, String songs) {
        due(call, x.hour(), got);
        CHECK.due(call, Check.songs(x), songs);
    }

    private static void fading() {
        SongThatStays x = Check.told("ss53;sl53;sq53;sc53;sj53;hd00;hd00;hd00;hd00;hd00;g00;g11;g22;g33;g44;");
        CHECK.due("fresh", Check.songs(x), "0:13 1:13 2:16 3:13 4:32");
        hourly("hour 0", x, 0, "0:11 1:12 2:13 3:17 4:26");
        hourly("hour 1", x, 0, "0:9 1:11 2:10 3:16 4:20");
        hourly("hour 2", x, 0, "0:7 1:10 2:7 3:15 4:14");
        hourly("hour 3", x, 0, "0:5 1:9 2:4 3:14 4:8");
        hourly("hour 4", x, 0, "0:3 1:8 2:1 3:13 4:2");
        hourly("hour 5", x, 0, "0:1 1:7 -9:0 3:12 -9:0");
        hourly("hour 6", x, 0, "-9:0 1:6 -9:0 3:16 -9:0");
        due("hour", x.count(4), 7);
        SongThatStays y = Check.told("sh53;hd00;g00;");
        hourly("hymn in hour 0", y, 0, "0:12");
        hourly("hymn in hour 1", y, 0, "0:12");
        hourly("hymn in hour 2", y, 0, "0:11");
        hourly("hymn in hour 3", y, 0, "0:11");
        SongThatStays z = Check.told("ss01;ss02;hh00;hh00;g00;g11;");
        hourly("to below 0 and to 0", z, 0, "-9:0 -9:0");
    }

    private static void fadingWithGum() {
        SongThatStays x = Check.told("ss53;sl53;sq53;sc53;sj53;hd00;hd00;hd00;hd00;hd00;g00;g11;g22;g33;g44;");
        for (int head = 0; head < 5; head++) {
            x.remedy(head, 2);
        }
        hourly("gum in hour 0", x, 0, "0:10 1:11 2:12 3:16 4:25");
        hourly("gum in hour 1", x, 0, "0:7 1:9 2:8 3:14 4:18");
        hourly("gum in hour 2", x, 0, "0:4 1:7 2:4 3:12 4:11");
        hourly("no gum in hour 3", x, 0, "0:2 1:6 2:1 3:11 4:5");
        SongThatStays y = Check.told("sh53;hd00;g00;");
        y.remedy(0, 2);
        hourly("hymn and gum in hour 0", y, 0, "0:11");
        hourly("hymn and gum in hour 1", y, 0, "0:10");
        hourly("hymn and gum in hour 2", y, 0, "0:8");
        hourly("hymn in hour 3", y, 0, "0:8");
    }

    private static void gum() {
        SongThatStays x = Check.told("ss53;ss54;hw00;hw00;hw40;g00;");
        for (int head = 0; head < 3; head++) {
            x.remedy(head, 2);
        }
        x.hour();
        for (int head = 0; head < 3; head++) {
            due("gum of one who has, gets, has none", x.head(head, 5), 2);
        }
        due("he got it fresh", x.head(1, 4), 13);
        Check.pass(x, 2);
        for (int head = 0; head < 3; head++) {
            due("no gum", x.head(head, 5), 0);
        }
        x.hour();
        due("never below 0", x.head(0, 5), 0);
        x.remedy(0, 2);
        x.hour();
        x.remedy(0, 2);
        due("three hours again", x.head(0, 5), 3);
    }

    private static void bars() {
        int[][] want = {{5, 0}, {4, 1}};
        for (int[] row : want) {
            due("resist " + row[0], Check.told("ss53;hw00;hh0" + row[0] + ";g00;").hour(), row[1]);
            due("whistler " + row[0], Check.told("ss53;hw00;hw0" + row[0] + ";g00;").hour(), row[1]);
        }
        due("tired, 9", Check.told("ss53;hw00;ht09;g00;").hour(), 1);
        due("tired, 9, pull 4", Check.told("ss43;hw00;ht09;g00;").hour(), 0);
        due("busy, 2", Check.told("ss53;hw00;hb02;g00;").hour(), 0);
        due("busy, 1", Check.told("ss53;hw00;hb01;g00;").hour(), 1);
        due("young, 9", Check.told("ss13;hw00;hy09;g00;").hour(), 1);
        due("young, pull 0", Check.told("ss03;hw00;hy09;g00;").hour(), 0);
        due("deaf, 0", Check.told("sj99;hw00;hd00;g00;").hour(), 0);
    }

    private static void strengths() {
        SongThatStays x = Check.told("ss53;ss61;hd00;hh00;g01;g10;");
        hourly("fresh as strong as his own", x, 0, "1:11 0:11");
        hourly("fresh stronger than his own", x, 1, "1:9 1:13");
        SongThatStays y = Check.told("ss53;hd00;hh00;g00;g10;");
        y.remedy(1, 1);
        hourly("his own is not heard", y, 0, "0:11 0:7");
    }

    private static void atOnce() {
        SongThatStays x = Check.told("ss53;ss54;hh00;hh00;g00;g11;");
        x.remedy(0, 0);
        x.remedy(1, 0);
        hourly("they change songs", x, 2, "1:14 0:13");
        SongThatStays y = Check.told("d01;d12;ss53;hh00;hh10;hh20;g00;");
        hourly("only the next room hears", y, 1, "0:11 0:13 -9:0");
        hourly("then the one behind", y, 1, "0:9 0:11 0:13");
    }

    private static void thePullDecides() {
        SongThatStays x = Check.told("ss39;ss61;ss54;hh00;hh00;hh00;g00;g11;g22;");
        hourly("only the one that pulls most is tried", x, 1, "0:13 2:14 2:12");
        SongThatStays y = Check.told("ss51;ss59;ss49;hd00;hd00;hd00;hh00;g02;g11;g20;");
        hourly("of those that pull alike the least", y, 1, "2:15 1:17 0:9 0:11");
        SongThatStays z = Check.told("ss51;ss61;hd00;hd00;hh05;g00;g11;");
        hourly("more than his bar", z, 1, "0:9 1:11 1:13");
    }

    private static void whoHums() {
        SongThatStays x = Check.told("ss31;hh00;hh00;g00;o8;");
        hourly("too weak to hum", x, 0, "0:5 -9:0");
        x.loud(5);
        hourly("as strong as loud", x, 1, "0:3 0:7");
        SongThatStays y = Check.told("ss31;hw00;hh00;g00;o20;");
        hourly("a whistler hums", y, 1, "0:5 0:7");
        SongThatStays z = Check.told("ss39;hb00;hh00;g00;o1;");
        hourly("a busy one does not", z, 0, "0:13 -9:0");
        SongThatStays v = Check.told("ss31;hy00;hh00;g00;o20;");
        hourly("a young one in an even hour", v, 1, "0:5 0:7");
        v.get(1, -1);
        hourly("a young one in an odd hour", v, 0, "0:3 -9:0");
        hourly("a young one in an even hour again", v, 1, "0:1 0:7");
    }

    private static void whoHears() {
        SongThatStays x = Check.told("d01;ss53;hw00;hh10;hh20;g00;");
        x.door(0);
        hourly("the door is shut", x, 0, "0:11 -9:0 -9:0");
        x.door(0);
        hourly("the door is open", x, 1, "0:9 0:13 -9:0");
        x.go(2, 0);
        hourly("he went into the room", x, 1, "0:7 0:11 0:13");
    }

    /** 999 hours are more than an object's calls allow; the refusal can be seen no other way. */
    private static void theLastHour() {
        SongThatStays x = Check.told("ss99;hw00;hw00;g00;");
        Check.pass(x, 998);
        due("hour 998", x.count(4), 998);
        due("it goes by", x.hour() >= 0 ? 1 : 0, 1);
        due("hour 999", x.count(4), 999);
        x.get(0, 0);
        x.get(1, -1);
        x.remedy(0, 2);
        String before = Check.all(x);
        due("no hour more", x.hour(), -6);
        CHECK.due("it is counted", Check.refusals(x), "0 0 0 0 0 1");
        CHECK.due("nothing else changes", Check.all(x), before);
        due("no hour more, again", x.hour(), -6);
        CHECK.due("it is counted again", Check.refusals(x), "0 0 0 0 0 2");
        due("hours in mind go on", x.hold(1, 1, 0), 0);
    }
}
