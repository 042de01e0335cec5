/** The bounds of "II. In mind" and of promises 13 to 22: a test for each sentence. */
public final class EdgeMindTest {
    private static final Check CHECK = new Check("EdgeMindTest");
    /** Behind 60 hours it is 1, behind 61 it is gone. */
    private static final String LONG = "sc43;hd00;g00;";
    /** Behind 59 hours it is 1, behind 60 it is gone. */
    private static final String SHORTER = "sc42;hd00;g00;";

    public static void main(String[] args) {
        holdNow();
        holdInTheLastHour();
        haveOneOrAny();
        haveNowAndInTheLastHour();
        takesNow();
        takesFirst();
        takesInTheLastHour();
        stillNow();
        stillFirst();
        stillInTheLastHour();
        stillOfAnySong();
        mostNow();
        mostFirst();
        mostInTheLastHour();
        mostOfNobody();
        lastsLeast();
        lastsNone();
        lastsNowAndInTheLastHour();
        fromHimself();
        fromNobody();
        fromTheLeast();
        fromThen();
        fromAgain();
        firstOfAll();
        firstAgain();
        ridNow();
        ridFirst();
        ridInTheLastHour();
        ridByNone();
        ridByNothingAtAll();
        insteadFirst();
        insteadNoSooner();
        insteadInTheLastHour();
        insteadAnother();
        nothingPassesInMind();
        CHECK.end();
    }

    private static void due(String call, long got, long want) {
        CHECK.due(call, got, want);
    }

    /** "behind n HOURS (0 .. 60)": behind 0 all is as now. */
    private static void holdNow() {
        SongThatStays x = Check.told("ss53;sl99;hw00;hh00;hh40;g01;g10;");
        for (int n = 0; n < 3; n++) {
            for (int head = 0; head < 3; head++) {
                due("song of " + head, x.hold(head, 0, 0), x.head(head, 3));
                due("strength of " + head, x.hold(head, 0, 1), x.head(head, 4));
            }
            x.hour();
        }
        due("no song", x.hold(2, 0, 0), -9);
        due("no strength", x.hold(2, 0, 1), 0);
    }

    /** "behind n HOURS (0 .. 60)": behind 60; the hours go on from HOUR. */
    private static void holdInTheLastHour() {
        due("strength behind 60", Check.told(LONG).hold(0, 60, 1), 1);
        due("song behind 60", Check.told(LONG).hold(0, 60, 0), 0);
        due("strength of the shorter behind 59", Check.told(SHORTER).hold(0, 59, 1), 1);
        due("strength of the shorter behind 60", Check.told(SHORTER).hold(0, 60, 1), 0);
        due("song of the shorter behind 60", Check.told(SHORTER).hold(0, 60, 0), -9);
        SongThatStays x = Check.told("sc99;hd00;");
        Check.pass(x, 3);
        x.get(0, 0);
        for (int n = 1; n <= 60; n++) {
            int ahead = x.hold(0, n - 1, 1);
            due("from hour 3, behind " + n, x.hold(0, n, 1) - ahead, (3 + n - 1) % 6 == 0 ? 4 : -1);
        }
    }

    /** "how many HEADS have a SONG (one, any)"; "(song -1: any)". */
    private static void haveOneOrAny() {
        SongThatStays x = Check.told("ss53;ss53;ss53;ss53;ss53;hd00;hd00;hd00;hd00;hd00;hd00;g00;g14;g24;g33;");
        int[] want = {4, 1, 0, 0, 1, 2};
        for (int song = -1; song <= 4; song++) {
            due("have " + song, x.have(song, 0), want[song + 1]);
            due("have " + song + " behind 6", x.have(song, 6), want[song + 1]);
            due("have " + song + " behind 7", x.have(song, 7), 0);
        }
    }

    private static void haveNowAndInTheLastHour() {
        due("now", Check.told(LONG).have(0, 0), 1);
        due("one behind 60", Check.told(LONG).have(0, 60), 1);
        due("any behind 60", Check.told(LONG).have(-1, 60), 1);
        due("one of the shorter behind 60", Check.told(SHORTER).have(0, 60), 0);
        due("any of the shorter behind 60", Check.told(SHORTER).have(-1, 60), 0);
        due("nobody there", new SongThatStays().have(-1, 60), 0);
        due("nobody has any", Check.told("ss53;hh00;").have(-1, 60), 0);
    }

    /** "(0 he has it)". */
    private static void takesNow() {
        SongThatStays x = Check.told("ss01;ss99;hh00;g00;");
        due("he has it, just for now", x.takes(0, 0), 0);
        due("the other one never", x.takes(0, 1), -9);
    }

    /** "the first HOUR (1 .. 60) behind which a HEAD has a SONG": 1 at least, if he has it not now. */
    private static void takesFirst() {
        SongThatStays x = Check.told("d01;ss91;hw00;hw10;g00;");
        due("behind 1", x.takes(1, 0), 1);
        x.door(0);
        due("never", x.takes(1, 0), -9);
        due("fresh 13 against 12", Check.told("ss53;sj11;hw00;hb01;g00;g11;").takes(1, 0), 1);
        due("fresh 14 against 20, 14, 8", Check.told("ss54;sj31;hw00;hb01;g00;g11;").takes(1, 0), 3);
    }

    /** "(1 .. 60)": 60 is told, 61 is not. */
    private static void takesInTheLastHour() {
        due("behind 60", busyOne(6).takes(2, 1), 60);
        due("beyond", busyOne(5).takes(2, 1), -9);
        due("all have it then, not before", busyOne(6).have(1, 59), 2);
        due("all have it then", busyOne(6).have(1, 60), 3);
    }

    /** The busy one's cued song is at last weaker than the one that two whistlers keep alive. */
    private static SongThatStays busyOne(int length) {
        SongThatStays x = Check.told("sc99;ss4" + length + ";hw00;hw00;hb00;");
        x.hour();
        x.get(0, 1);
        x.get(2, 0);
        return x;
    }

    /** "behind how many HOURS (0 .. 60) nobody has any": 0, if nobody has any now. */
    private static void stillNow() {
        due("nobody there", new SongThatStays().still(), 0);
        due("nobody has any", Check.told("ss99;hw00;").still(), 0);
        due("one has one", Check.told("ss01;hh00;g00;").still(), 1);
        SongThatStays x = Check.told("ss05;hh00;g00;");
        due("behind 60 nobody has any", x.have(-1, 60), 0);
        due("from now, not from there", x.still(), 3);
        due("as before", x.still(), 3);
    }

    private static void stillFirst() {
        due("3 by 2", Check.told("ss03;hh00;g00;").still(), 2);
        due("4 by 2", Check.told("ss04;hh00;g00;").still(), 2);
        due("5 by 2", Check.told("ss05;hh00;g00;").still(), 3);
        due("the longest of two", Check.told("ss05;ss09;hd00;hd10;g00;g11;").still(), 5);
    }

    private static void stillInTheLastHour() {
        due("behind 60", Check.told(SHORTER).still(), 60);
        due("beyond", Check.told(LONG).still(), -9);
        due("never", Check.told("ss99;hw00;hw00;g00;").still(), -9);
    }

    /** "nobody has any": any SONG, not just the first. */
    private static void stillOfAnySong() {
        due("the second song", Check.told("ss53;sl05;hd00;g01;").still(), 5);
        due("the last song", Check.told("ss53;ss53;ss53;ss53;sl05;hd00;g04;").still(), 5);
        due("the second goes last", Check.told("ss01;sl05;hd00;hd10;g00;g11;").still(), 5);
    }

    /** "behind which HOUR of 0 .. n": 0 is one of them. */
    private static void mostNow() {
        SongThatStays x = Check.told("ss03;ss05;hd00;hd00;hh00;g00;g10;g21;");
        due("of 0, when", x.most(-1, 0, 0), 0);
        due("of 0, how many", x.most(-1, 0, 1), 3);
        due("of 60, when", x.most(-1, 60, 0), 0);
        due("of 60, how many", x.most(-1, 60, 1), 3);
        due("of one, how many", x.most(0, 60, 1), 2);
        due("of the other, how many", x.most(1, 60, 1), 1);
    }

    /** "of several the first". */
    private static void mostFirst() {
        SongThatStays x = Check.told("d01;ss53;hh00;hh10;g00;");
        due("two have it behind 1 to 7", x.most(0, 60, 0), 1);
        due("two", x.most(0, 60, 1), 2);
        due("of 0, one", x.most(0, 0, 1), 1);
        due("of 1, two", x.most(0, 1, 1), 2);
        due("of 1, when", x.most(0, 1, 0), 1);
    }

    /** "of 0 .. n": n is one of them, 60 is the last. */
    private static void mostInTheLastHour() {
        due("of 60, when", busyOne(6).most(1, 60, 0), 60);
        due("of 60, how many", busyOne(6).most(1, 60, 1), 3);
        due("of 59, when", busyOne(6).most(1, 59, 0), 1);
        due("of 59, how many", busyOne(6).most(1, 59, 1), 2);
        due("just beyond", busyOne(5).most(1, 60, 1), 2);
    }

    private static void mostOfNobody() {
        SongThatStays x = new SongThatStays();
        due("nobody there, when", x.most(-1, 60, 0), 0);
        due("nobody there, how many", x.most(-1, 60, 1), 0);
        SongThatStays y = Check.told("ss53;ss53;hh00;g00;");
        due("a song that nobody gets, when", y.most(1, 60, 0), 0);
        due("a song that nobody gets, how many", y.most(1, 60, 1), 0);
    }

    /** "the SONG that most have behind n HOURS, of several the least". */
    private static void lastsLeast() {
        SongThatStays x = Check.told("ss99;ss99;ss99;ss99;ss99;hd00;hd10;hd20;hd30;hd40;g04;g13;g22;g31;g40;");
        due("one has each", x.lasts(0), 0);
        x.get(4, 1);
        due("two have 1", x.lasts(0), 1);
        x.get(2, 4);
        due("two have 1, two have 4", x.lasts(0), 1);
        x.get(1, 4);
        due("three have 4", x.lasts(5), 4);
        due("still", x.lasts(13), 4);
        due("gone", x.lasts(14), -9);
    }

    /** "-9 none". */
    private static void lastsNone() {
        due("nobody there", new SongThatStays().lasts(0), -9);
        due("no songs", Check.told("hh00;").lasts(0), -9);
        due("nobody has any", Check.told("ss53;hh00;").lasts(60), -9);
    }

    private static void lastsNowAndInTheLastHour() {
        due("now", Check.told(LONG).lasts(0), 0);
        due("behind 60", Check.told(LONG).lasts(60), 0);
        due("the shorter behind 59", Check.told(SHORTER).lasts(59), 0);
        due("the shorter behind 60", Check.told(SHORTER).lasts(60), -9);
    }

    /** "himself, if he has had it from the beginning": the beginning is now. */
    private static void fromHimself() {
        SongThatStays x = Check.told("ss53;hw00;hw00;hh00;g00;g10;");
        due("0 now", x.from(0, 0), 0);
        due("1 now", x.from(1, 0), 1);
        due("1, though 0 hums it to him", x.from(1, 6), 1);
        due("2 got it from 0", x.from(2, 6), 0);
        x.hour();
        due("2 has it from the beginning now", x.from(2, 0), 2);
        due("2 then", x.from(2, 5), 2);
        due("the one behind 60", Check.told(LONG).from(0, 60), 0);
        due("first of the one behind 60", Check.told(LONG).first(0, 60), 0);
    }

    /** "-9 he has none": never had, not yet, no more. */
    private static void fromNobody() {
        SongThatStays x = Check.told("d01;ss03;ss13;hw00;hw10;hb40;g01;");
        due("never had", x.from(2, 60), -9);
        due("never had, first", x.first(2, 60), -9);
        due("not yet", x.from(1, 0), -9);
        due("not yet, first", x.first(1, 0), -9);
        due("had", x.from(0, 2), 0);
        due("no more", x.from(0, 3), -9);
        due("no more, first", x.first(0, 3), -9);
        due("again", x.from(0, 4), 1);
        x.door(0);
        due("no more, door shut", x.from(0, 3), -9);
        due("no more, door shut, first", x.first(0, 3), -9);
        due("the shorter behind 60", Check.told(SHORTER).from(0, 60), -9);
        due("the shorter behind 60, first", Check.told(SHORTER).first(0, 60), -9);
    }

    /** "of those NEAR who HUMMED it then the least". */
    private static void fromTheLeast() {
        // 0 is not near, 1 does not hum, 2 hums another song, 3 and 4 hum it.
        SongThatStays x = Check.told("ss53;ss43;hh10;hb00;hh00;hh00;hh00;hh00;g00;g10;g21;g30;g40;");
        due("the least of all", x.from(5, 1), 3);
        x.get(1, -1);
        x.get(3, -1);
        due("the one left", x.from(5, 1), 4);
        x.go(0, 0);
        due("he is near now", x.from(5, 1), 0);
        x.get(0, -1);
        x.get(4, -1);
        due("the other song", x.from(5, 1), 2);
        due("the other song in the least", x.from(0, 1), 2);
    }

    /** "who HUMMED it then": in the hour in which he got it, not later. */
    private static void fromThen() {
        SongThatStays x = Check.told("d01;d02;ss93;hh00;hh10;hh20;g20;");
        due("0 from 2", x.from(0, 1), 2);
        due("1 from 0", x.from(1, 2), 0);
        due("0 from 2 still", x.from(0, 5), 2);
        due("1 from 0 still", x.from(1, 5), 0);
        due("first of 1", x.first(1, 5), 2);
        SongThatStays y = Check.told("ss93;hy00;hh00;hh00;g20;");
        due("0 from 2, though 1 hums it later", y.from(0, 3), 2);
        due("1 from 2, though 0 hums it later", y.from(1, 3), 2);
    }

    /** What he had, lost, and got again he has not from the beginning. */
    private static void fromAgain() {
        SongThatStays x = Check.told("d01;d02;ss53;ss63;hw00;hw10;hb20;g00;g11;");
        due("0 has 1's song behind 1", x.hold(0, 1, 0), 1);
        due("from 1", x.from(0, 1), 1);
        due("2 has 0's song behind 1", x.hold(2, 1, 0), 0);
        due("2 has 1's song behind 2", x.hold(2, 2, 0), 1);
        due("from 0, who had it from 1", x.from(2, 2), 0);
        due("first", x.first(2, 2), 1);
        SongThatStays y = Check.told("ss91;hw00;hw00;g00;");
        due("his own in its last hour", y.from(0, 9), 0);
        due("it is gone", y.from(0, 10), -9);
        due("from the other", y.from(0, 11), 1);
        due("first himself", y.first(0, 11), 0);
        due("the other's in its last hour", y.from(1, 10), 0);
        due("the other's is gone", y.from(1, 11), -9);
        due("the other's again, from him who had it from him", y.from(1, 12), 0);
    }

    /** "from whom that one got his, and so on, back to one who had it from the beginning": through all the rooms. */
    private static void firstOfAll() {
        SongThatStays x = Check.told("d01;d12;d23;d34;ss91;hw40;hw30;hw20;hw10;hw00;g40;");
        for (int head = 0; head < 4; head++) {
            due("from, " + head, x.from(head, 4), head + 1);
            due("first, " + head, x.first(head, 4), 4);
            due("first, " + head + ", an hour before he has it", x.first(head, 3 - head), -9);
            due("first, " + head + ", when he has it", x.first(head, 4 - head), 4);
        }
        due("first, himself", x.first(4, 4), 4);
    }

    /** Back through one and the same more than once. */
    private static void firstAgain() {
        SongThatStays x = Check.told("ss91;hw00;hw00;g00;");
        for (int n = 0; n <= 60; n++) {
            for (int head = 0; head <= 1; head++) {
                due("first(" + head + ", " + n + ")", x.first(head, n), x.hold(head, n, 0) == 0 ? 0 : -9);
            }
        }
        x.get(0, -1);
        x.get(1, 0);
        due("the other way", x.first(0, 60), x.hold(0, 60, 0) == 0 ? 1 : -9);
    }

    private static void rid(String office, int remedy, int hours) {
        SongThatStays x = Check.told(office);
        String before = Check.all(x);
        due("rid(0, 0) " + office, x.rid(0, 0), remedy);
        due("rid(0, 1) " + office, x.rid(0, 1), hours);
        CHECK.due("nothing changes", Check.all(x), before);
    }

    /** "behind the least number of HOURS (0 .. 60)": 0, if the REMEDY takes it at once. */
    private static void ridNow() {
        rid("ss01;hd00;g00;", 0, 0);
        rid("ss02;hd00;g00;", 1, 0);
        rid("ss04;hd00;g00;", 1, 0);
        rid("ss05;hd00;g00;", 0, 1);
        rid("sl05;hd00;g00;", 1, 1);
    }

    /** "of several the first": of all four, of 0 and 1, of 1 and 2, of 2 and 3. */
    private static void ridFirst() {
        SongThatStays four = Check.told("sj02;hd00;g00;");
        four.remedy(0, 1);
        due("6 of a jingle goes in an hour by all four", four.rid(0, 0), 0);
        due("6 of a jingle, hours", four.rid(0, 1), 1);
        rid("ss08;hd00;g00;", 0, 2);
        due("11: half would let the other's in", humsOnce("ss43;").rid(0, 0), 1);
        due("11, hours", humsOnce("ss43;").rid(0, 1), 4);
        due("8 of a jingle: half and 4 less would let the other's in", humsOnce("sj01;").rid(0, 0), 2);
        due("8 of a jingle, hours", humsOnce("sj01;").rid(0, 1), 2);
    }

    /** The other one hums a song, 7 if it is heard, in this hour alone. */
    private static SongThatStays humsOnce(String song) {
        SongThatStays x = Check.told(song + "ss31;hh00;hw09;g00;g11;");
        x.remedy(1, 0);
        x.remedy(1, 0);
        return x;
    }

    /** "(0 .. 60)": 60 is told, 61 is not. */
    private static void ridInTheLastHour() {
        rid("sc84;hd00;g00;", 0, 60);
        rid("sc86;hd00;g00;", -9, -9);
    }

    /** "-9 by none". */
    private static void ridByNone() {
        rid("sc99;hd00;g00;", -9, -9);
        rid("sh99;hd00;g00;", 0, 25);
    }

    /** "3 none at all": it alone lets his own song keep the other one out for long enough. */
    private static void ridByNothingAtAll() {
        rid("sl31;ss41;hw00;hd00;g01;g10;", 3, 5);
    }

    private static void instead(String office, int want) {
        SongThatStays x = Check.told(office);
        String before = Check.all(x);
        due("instead(0) " + office, x.instead(0), want);
        CHECK.due("nothing changes", Check.all(x), before);
    }

    /** "of several the first". */
    private static void insteadFirst() {
        instead("ss53;ss01;ss02;hd00;g00;", 1);
        instead("ss53;ss03;ss02;ss01;hd00;g00;", 2);
        instead("ss01;ss02;ss53;hd00;g02;", 0);
        instead("ss99;ss98;ss97;ss96;sl01;hd00;g00;", 4);
    }

    /** "if that is sooner than with his own": as soon is not. */
    private static void insteadNoSooner() {
        instead("ss01;ss02;hd00;g00;", -9);
        instead("ss02;ss01;hd00;g00;", -9);
        instead("ss03;ss01;hd00;g00;", 1);
        instead("sc99;sc99;hd00;g00;", -9);
        instead("ss01;ss53;hd00;g00;", -9);
    }

    /** Behind 60 hours is sooner than beyond. */
    private static void insteadInTheLastHour() {
        instead("sc43;sc42;hd00;g00;", 1);
        instead("sc44;sc43;hd00;g00;", -9);
        instead("sc42;sc43;hd00;g00;", -9);
    }

    /** "(another one)": there is none, and his own, though fresh it would take longer. */
    private static void insteadAnother() {
        instead("ss53;hd00;g00;", -9);
        SongThatStays x = Check.told("ss53;ss55;hd00;g00;");
        x.remedy(0, 0);
        due("his own is half gone", x.instead(0), -9);
        x.get(0, 1);
        due("the other way", x.instead(0), 0);
    }

    /** "in mind": none of these changes how all is. */
    private static void nothingPassesInMind() {
        SongThatStays x = busyOne(6);
        x.remedy(2, 2);
        String before = Check.all(x);
        x.hold(2, 60, 0);
        x.have(-1, 60);
        x.takes(2, 1);
        x.still();
        x.most(-1, 60, 0);
        x.lasts(60);
        x.from(2, 60);
        x.first(2, 60);
        x.rid(2, 0);
        x.instead(2);
        CHECK.due("all is as it was", Check.all(x), before);
        CHECK.due("none is refused", Check.refusals(x), "0 0 0 0 0 0");
    }
}
