/** Promises 21 and 22: by what one is rid of a song soonest. */
public final class RidTest {
    private static final Check CHECK = new Check("RidTest");

    public static void main(String[] args) {
        rid();
        ridBounds();
        instead();
        insteadOfManyHeads();
        CHECK.end();
    }

    private static void rid(String office, int remedy, int hours) {
        SongThatStays x = Check.told(office);
        CHECK.due("rid(0, 0) " + office, x.rid(0, 0), remedy);
        CHECK.due("rid(0, 1) " + office, x.rid(0, 1), hours);
    }

    private static void instead(String office, int want) {
        CHECK.due("instead(0) " + office, Check.told(office).instead(0), want);
    }

    private static void rid() {
        rid("ss53;hd00;g00;", 0, 3);
        rid("ss11;hd00;g00;", 1, 0);
        rid("ss01;hd00;g00;", 0, 0);
        rid("ss02;hd00;g00;", 1, 0);
        rid("sl22;hd00;g00;", 1, 2);
        // One whose own song is weaker gets the other's; with gum it is gone before.
        rid("ss24;ss51;hh00;hh00;g01;g10;", 2, 4);
        // Whatever makes his own song weaker makes him get the other's.
        rid("sl31;ss41;hw00;hd00;g01;g10;", 3, 5);
        // Both by half and by 4 less it is gone behind three hours.
        rid("ss33;hd00;g00;", 0, 2);
        rid("ss14;ss12;hd00;g00;", 1, 1);
        SongThatStays x = Check.told("ss53;hd00;g00;");
        x.remedy(0, 2);
        CHECK.due("he has gum already", x.rid(0, 1), 2);
    }

    private static void ridBounds() {
        rid("sc99;hd00;g00;", -9, -9);
        rid("sc84;hd00;g00;", 0, 60);
        rid("sc86;hd00;g00;", -9, -9);
        // He is rid of it for an hour, though the other hums it to him again.
        rid("ss99;hw00;hw00;g00;", 0, 7);
    }

    private static void instead() {
        instead("ss53;sl11;hd00;g00;", 1);
        instead("ss53;ss53;hd00;g00;", -9);
        instead("ss11;ss12;ss22;hd00;g00;", -9);
        instead("ss53;sl11;ss14;hd00;g00;", 1);
        instead("ss53;sl11;ss11;hd00;g00;", 2);
        instead("ss11;ss53;hd00;g01;", 0);
        instead("sc99;sl11;hd00;g00;", 1);
        instead("sc99;sc42;hd00;g00;", 1);
        instead("sc99;sc43;hd00;g00;", -9);
        SongThatStays x = Check.told("ss53;sl53;hd00;g00;");
        x.remedy(0, 0);
        CHECK.due("the other is got fresh", x.instead(0), -9);
    }

    /** The other song drives his own out, but it would be the other's for long. */
    private static void insteadOfManyHeads() {
        SongThatStays x = Check.told("sj99;sh11;hw00;hw00;g00;");
        CHECK.due("the hymn goes by itself", x.instead(0), 1);
        x.hour();
        CHECK.due("driven out is not rid", x.instead(0), -9);
        x.hour();
        x.get(1, 1);
        CHECK.due("head 0", x.instead(0), 1);
        CHECK.due("head 1", x.instead(1), 0);
    }
}
