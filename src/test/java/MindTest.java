/** Promises 13 to 20: what is imagined behind n hours. */
public final class MindTest {
    private static final Check CHECK = new Check("MindTest");
    /** Three in a row: the song is 13 when heard, fades by 2 and is hummed from 6 on. */
    private static final String CHAIN = "d01;d12;ss53;hh00;hh10;hh20;g00;";

    public static void main(String[] args) {
        hold();
        have();
        takes();
        still();
        most();
        lasts();
        from();
        first();
        theGiverHasAnotherSongSince();
        hoursAreCountedOnInMind();
        nothingChanges();
        nothingIsKeptInMind();
        CHECK.end();
    }

    private static void due(String call, long got, long want) {
        CHECK.due(call, got, want);
    }

    private static void hold() {
        SongThatStays x = Check.told(CHAIN);
        int[][] strengths = {{13, 11, 9, 7, 5, 3, 1, 0, 0, 0}, {0, 13, 11, 9, 7, 5, 3, 1, 0, 0},
            {0, 0, 13, 11, 9, 7, 5, 3, 1, 0}};
        for (int head = 0; head < 3; head++) {
            for (int n = 0; n < 10; n++) {
                int strength = strengths[head][n];
                due("hold(" + head + ", " + n + ", 0)", x.hold(head, n, 0), strength > 0 ? 0 : -9);
                due("hold(" + head + ", " + n + ", 1)", x.hold(head, n, 1), strength);
            }
        }
        due("hold, most hours", x.hold(0, 60, 0), -9);
        SongThatStays y = Check.told("sc43;hd00;g00;");
        due("hold 59", y.hold(0, 59, 1), 2);
        due("hold 60", y.hold(0, 60, 1), 1);
        due("hold 60, song", y.hold(0, 60, 0), 0);
    }

    private static void have() {
        SongThatStays x = Check.told(CHAIN.replace("ss53;", "ss53;sl53;"));
        int[] want = {1, 2, 3, 3, 3, 3, 3, 2, 1, 0};
        for (int n = 0; n < 10; n++) {
            due("have(0, " + n + ")", x.have(0, n), want[n]);
            due("have(-1, " + n + ")", x.have(-1, n), want[n]);
            due("have(1, " + n + ")", x.have(1, n), 0);
        }
        x.get(2, 1);
        due("have any", x.have(-1, 0), 2);
        due("have one", x.have(0, 0), 1);
        due("have other", x.have(1, 0), 1);
        due("have in most hours", x.have(-1, 60), 0);
    }

    private static void takes() {
        SongThatStays x = Check.told(CHAIN);
        due("he has it", x.takes(0, 0), 0);
        due("next hour", x.takes(1, 0), 1);
        due("second hour", x.takes(2, 0), 2);
        x.door(1);
        due("never", x.takes(2, 0), -9);
        due("the busy one gives in last", sixty(6).takes(2, 1), 60);
        due("beyond 60", sixty(5).takes(2, 1), -9);
    }

    /** A busy one's own cued song is at last weaker than the one that two whistlers keep alive. */
    private static SongThatStays sixty(int length) {
        SongThatStays x = Check.told("sc99;ss4" + length + ";hw00;hw00;hb00;");
        x.hour();
        x.get(0, 1);
        x.get(2, 0);
        return x;
    }

    private static void still() {
        due("nobody at all", new SongThatStays().still(), 0);
        due("nobody has any", Check.told("ss53;hh00;").still(), 0);
        due("chain", Check.told(CHAIN).still(), 9);
        due("in 60", Check.told("sc42;hd00;g00;").still(), 60);
        due("beyond 60", Check.told("sc43;hd00;g00;").still(), -9);
        due("two whistlers", Check.told("ss99;hw00;hw00;g00;").still(), -9);
    }

    private static void most() {
        SongThatStays x = Check.told(CHAIN);
        due("most of 0", x.most(0, 0, 0), 0);
        due("most of 0, how many", x.most(0, 0, 1), 1);
        due("most of 1", x.most(0, 1, 0), 1);
        due("most of 1, how many", x.most(0, 1, 1), 2);
        due("most", x.most(0, 60, 0), 2);
        due("how many", x.most(0, 60, 1), 3);
        due("most, any", x.most(-1, 60, 0), 2);
        due("how many, any", x.most(-1, 60, 1), 3);
        x.get(0, -1);
        due("nobody", x.most(0, 60, 0), 0);
        due("nobody, how many", x.most(-1, 60, 1), 0);
        SongThatStays y = new SongThatStays();
        due("nobody there", y.most(-1, 60, 0), 0);
        due("just in the last hour", sixty(6).most(1, 60, 1), 3);
        due("the last hour", sixty(6).most(1, 60, 0), 60);
        due("an hour less", sixty(6).most(1, 59, 0), 1);
    }

    private static void lasts() {
        SongThatStays x = Check.told(CHAIN);
        due("now", x.lasts(0), 0);
        due("behind 8", x.lasts(8), 0);
        due("behind 9", x.lasts(9), -9);
        due("behind 60", x.lasts(60), -9);
        SongThatStays y = Check.told("ss53;sl53;sl93;hd00;hd00;hd00;hd00;g01;g11;g22;g30;");
        due("the one that most have", y.lasts(0), 1);
        y.get(0, 0);
        due("most have the first", y.lasts(0), 0);
        due("of several the least, when it is gone", y.lasts(7), 1);
        due("the only one left", y.lasts(13), 2);
        due("none", y.lasts(21), -9);
        due("nobody there", new SongThatStays().lasts(5), -9);
    }

    private static void from() {
        SongThatStays x = Check.told(CHAIN);
        due("from the beginning", x.from(0, 0), 0);
        due("from the beginning, last hour", x.from(0, 6), 0);
        due("he has none any more", x.from(0, 7), -9);
        due("he has none yet", x.from(1, 0), -9);
        due("from the first", x.from(1, 1), 0);
        due("from the second", x.from(2, 2), 1);
        due("from the second, last hour", x.from(2, 8), 1);
        due("most hours", x.from(2, 60), -9);
        SongThatStays y = Check.told("ss53;hh00;hh00;hh00;g10;g20;");
        due("of those near the least", y.from(0, 1), 1);
        y.remedy(1, 0);
        y.remedy(1, 1);
        due("of those who hum the least", y.from(0, 1), 2);
        y.get(1, 0);
        y.go(1, 4);
        due("of those near", y.from(0, 1), 2);
        x.hour();
        due("the beginning is now", x.from(1, 0), 1);
        SongThatStays z = Check.told("ss99;hw00;hw00;g00;");
        due("he has lost it", z.from(0, 14), -9);
        due("he has it again, from the other", z.from(0, 15), 1);
    }

    private static void first() {
        SongThatStays x = Check.told(CHAIN);
        due("himself", x.first(0, 0), 0);
        due("he has none", x.first(2, 1), -9);
        due("the one before", x.first(1, 1), 0);
        due("the one two before", x.first(2, 2), 0);
        due("when that one has none", x.first(2, 8), 0);
        due("nobody has any", x.first(2, 60), -9);
        SongThatStays z = Check.told("ss99;hw00;hw00;g00;");
        due("again from the one who had it from him", z.first(0, 15), 0);
        due("he has lost it", z.first(0, 14), -9);
    }

    /** The second hands his song on in the very hour in which he gets another one. */
    private static void theGiverHasAnotherSongSince() {
        SongThatStays x = Check.told("d01;d12;d34;d14;ss53;ss63;hh00;hh10;hh20;hh30;hh40;g00;g31;");
        due("the third's song", x.hold(2, 2, 0), 0);
        due("the second's song", x.hold(1, 2, 0), 1);
        due("the third has it from the second", x.from(2, 2), 1);
        due("and so from the first", x.first(2, 2), 0);
        due("the second has his from the fifth", x.from(1, 2), 4);
        due("and so from the fourth", x.first(1, 2), 3);
        due("then all have the other", x.have(1, 3), 5);
        due("the third's then is from the second", x.from(2, 3), 1);
        due("and so from the fourth, too", x.first(2, 3), 3);
        due("takes", x.takes(0, 1), 3);
        due("never", x.takes(3, 0), -9);
        due("most have the first song", x.most(0, 60, 0), 1);
        due("how many", x.most(0, 60, 1), 2);
        due("most have any", x.most(-1, 60, 0), 2);
        due("lasts, of several the least", x.lasts(0), 0);
        due("lasts", x.lasts(2), 1);
    }

    private static void hoursAreCountedOnInMind() {
        SongThatStays x = Check.told("ss53;hy00;hh00;g00;");
        due("even now", x.takes(1, 0), 1);
        x.get(0, -1);
        x.hour();
        x.get(0, 0);
        due("odd now", x.takes(1, 0), 2);
        SongThatStays y = Check.told("sc53;hd00;g00;");
        due("cued now", y.hold(0, 1, 1), 17);
        due("cued in the seventh", y.hold(0, 7, 1), 16);
        y.hour();
        due("cued in the sixth from now", y.hold(0, 6, 1), 16);
    }

    private static void nothingChanges() {
        SongThatStays x = Check.told("d01;d12;ss53;sl42;hh00;hw10;hy20;g00;g21;");
        x.remedy(1, 2);
        x.row(4);
        x.letter('d');
        String before = Check.all(x);
        x.hold(0, 60, 0);
        x.have(-1, 60);
        x.takes(0, 1);
        x.still();
        x.most(1, 60, 1);
        x.lasts(60);
        x.from(1, 60);
        x.first(1, 60);
        x.rid(0, 1);
        x.instead(0);
        x.shut(60);
        x.seats(60);
        x.write(9, 60, 0);
        x.seeds(40, 77);
        CHECK.due("all is as it was", Check.all(x), before);
    }

    /** What was imagined before leaves no trace in what is imagined next. */
    private static void nothingIsKeptInMind() {
        SongThatStays x = Check.told("d01;d12;ss99;sl42;hw00;hw10;hh20;g00;");
        for (int round = 0; round < 3; round++) {
            x.hold(0, 60, 0);
            due("takes", x.takes(1, 0), 1);
            x.hold(0, 60, 0);
            due("still", x.still(), -9);
            due("hold", x.hold(0, 0, 1), 27);
            due("most", x.most(0, 3, 0), 2);
            due("from", x.from(0, 15), 1);
            due("himself", x.from(0, 1), 0);
            due("first", x.first(2, 2), 0);
            due("first himself", x.first(0, 13), 0);
            x.get(0, -1);
            due("still then", x.still(), 0);
            due("nobody", x.first(0, 0), -9);
            x.get(2, 0);
            due("first of another", x.first(0, 2), 2);
            due("first of himself", x.first(2, 2), 2);
            due("first of the one between", x.first(1, 2), 2);
            x.get(2, -1);
            x.get(0, 0);
        }
    }
}
