/** Promise 29: rooms by draws. The draws were worked out apart from the program and are told beside. */
public final class SeedsTest {
    private static final Check CHECK = new Check("SeedsTest");
    /** A whistler, and two busy ones who get his song in the hour in which they are in his room. */
    private static final String THREE = "ss99;hw00;hb10;hb20;g00;";

    public static void main(String[] args) {
        draws();
        hours();
        doors();
        ahead();
        CHECK.end();
    }

    private static void due(String call, long got, long want) {
        CHECK.due(call, got, want);
    }

    /** The first three draws with 0: 3, 2, 1; 1: 0, 3, 4; 7: 2, 0, 1; -1: 1, 0, 1; -99999: 1, 1, 2. */
    private static void draws() {
        SongThatStays x = Check.told(THREE);
        int[] seeds = {0, 1, 7, -1, -99999, Integer.MAX_VALUE, Integer.MIN_VALUE};
        int[] want = {1, 1, 1, 2, 2, 2, 1};
        for (int i = 0; i < seeds.length; i++) {
            due("seeds(1, " + seeds[i] + ")", x.seeds(1, seeds[i]), want[i]);
        }
    }

    private static void hours() {
        SongThatStays x = Check.told(THREE);
        int[][] want = {{0, 1, 2, 3, 3, 3, 3}, {1, 1, 1, 2, 2, 3, 3}, {12345, 1, 1, 1, 1, 1, 2}, {-99999, 2, 3, 3, 3, 3, 3}};
        for (int[] row : want) {
            for (int n = 1; n <= 6; n++) {
                due("seeds(" + n + ", " + row[0] + ")", x.seeds(n, row[0]), row[n]);
            }
        }
        due("most hours", x.seeds(40, 0), 0);
        due("nobody", new SongThatStays().seeds(40, 5), 0);
    }

    /** With 0 the first draws are 3, 2 and 1. */
    private static void doors() {
        due("a door to the second", Check.told(THREE + "d23;").seeds(1, 0), 2);
        due("a door to the third", Check.told(THREE + "d31;").seeds(1, 0), 2);
        due("doors to both", Check.told(THREE + "d13;d32;").seeds(1, 0), 3);
        due("a door elsewhere", Check.told(THREE + "d12;d04;").seeds(1, 0), 1);
    }

    /** All are in one room now, yet in none of it when the hour goes by. */
    private static void ahead() {
        SongThatStays x = Check.told("ss99;hw00;hb00;hb00;g00;");
        due("they go ahead of the hour", x.seeds(1, 0), 1);
        due("it is in mind", x.near(0), 6);
        due("the hour goes by in mind", x.count(4), 0);
    }
}
