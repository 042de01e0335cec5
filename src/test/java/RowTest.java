/** Promises 26 to 28: a row that is told, what would lead to it, and whether it is so. */
public final class RowTest {
    private static final Check CHECK = new Check("RowTest");
    private static final String TWO = "d01;ss53;sl42;hh00;hh10;g00;";

    public static void main(String[] args) {
        row();
        now();
        behindHours();
        noneIsNotOtherThanNone();
        judge();
        CHECK.end();
    }

    private static void due(String call, long got, long want) {
        CHECK.due(call, got, want);
    }

    private static void row() {
        SongThatStays x = new SongThatStays();
        due("none told", x.count(8), 0);
        due("least", x.row(0), 1);
        due("greatest", x.row(9), 2);
        for (int i = 3; i <= 6; i++) {
            due("row", x.row(5), i);
        }
        due("a seventh", x.row(5), -6);
        due("six are told", x.count(8), 6);
    }

    private static void otherwise(String office, int n, int ways, int first, int... row) {
        SongThatStays x = Check.told(office);
        Check.tellRow(x, row);
        String before = Check.all(x);
        due("otherwise(" + n + ", 0) " + office, x.otherwise(n, 0), ways);
        due("otherwise(" + n + ", 1) " + office, x.otherwise(n, 1), first);
        CHECK.due("all is as it was, the row, too", Check.all(x), before);
    }

    private static void now() {
        otherwise(TWO, 0, 0, -9, 0, 9);
        otherwise(TWO, 0, 1, 1, 1, 9);
        otherwise(TWO, 0, 1, 9, 9, 9);
        otherwise(TWO, 0, 1, 10, 0, 0);
        otherwise(TWO, 0, 1, 11, 0, 1);
        otherwise(TWO, 0, 0, -9, 1, 1);
        otherwise(TWO, 0, 0, -9, 0, 5);
        otherwise(TWO, 0, 0, -9, 0, 8);
        otherwise("ss53;hh00;hh00;g00;g10;", 0, 1, 19, 0, 9);
    }

    private static void behindHours() {
        otherwise(TWO, 1, 2, 10, 0, 0);
        otherwise(TWO, 1, 1, 1, 1, 1);
        otherwise(TWO, 1, 1, 9, 9, 9);
        // Behind 60 hours all is gone, whatever it was.
        otherwise(TWO, 60, 4, 1, 9, 9);
        otherwise("ss53;sl42;hd00;hd10;g00;g11;", 60, 4, 1, 9, 9);
        otherwise("ss53;sl42;hd00;g01;", 8, 2, 0, 9);
        // Fresh: in place of the weak one that he has it would be there still.
        SongThatStays x = Check.told("ss53;ss54;hd00;g00;");
        x.remedy(0, 0);
        x.row(1);
        due("fresh", x.otherwise(6, 1), 1);
        due("fresh, and gone", x.otherwise(7, 0), 0);
    }

    private static void noneIsNotOtherThanNone() {
        otherwise("ss01;hh00;hh00;", 1, 2, 0, 9, 9);
        otherwise("hh00;hh00;", 0, 0, -9, 9, 9);
        otherwise("ss01;", 0, 0, -9);
    }

    private static void judged(String call, int want, int... row) {
        SongThatStays x = Check.told("ss53;sl42;hh00;hh10;hh20;g01;g20;");
        Check.tellRow(x, row);
        due("judge " + call, x.judge(), want);
        due("the row has none then", x.count(8), 0);
        due("judge the empty row", x.judge(), 0);
    }

    private static void judge() {
        judged("as all is", -9, 1, 9, 0);
        judged("the first is not so", 0, 0, 9, 0);
        judged("the second is not so", 1, 1, 0, 0);
        judged("the third is not so", 2, 1, 9, 9);
        judged("two are not so", 1, 1, 1, 1);
        judged("too short", 2, 1, 9);
        judged("empty", 0);
        judged("too short, and not so", 1, 1, 1);
        judged("too long", 3, 1, 9, 0, 9);
        judged("much too long", 3, 1, 9, 0, 9, 9, 9);
        judged("too long, and not so", 0, 9, 9, 0, 9);
        judged("a number that is no song", 2, 1, 9, 5);
        SongThatStays again = Check.told("ss53;hh00;hh00;g10;");
        Check.tellRow(again, 1, 2, 3, 4, 5, 6);
        due("another row", again.judge(), 0);
        Check.tellRow(again, 9, 0);
        due("as all is, behind a longer row", again.judge(), -9);
        SongThatStays x = new SongThatStays();
        due("nobody", x.judge(), -9);
        x.row(9);
        due("nobody, one told", x.judge(), 0);
        CHECK.due("nothing is refused", Check.refusals(x), "0 0 0 0 0 0");
    }
}
