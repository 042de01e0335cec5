/** Promises 23 to 25: doors shut, seats changed, songs written. */
public final class PlanTest {
    private static final Check CHECK = new Check("PlanTest");
    private static final String CHAIN = "d01;d12;ss53;hh00;hh10;hh20;g00;";

    public static void main(String[] args) {
        shut();
        seats();
        write();
        writeBounds();
        writeTheLastOfAll();
        CHECK.end();
    }

    private static void due(String call, long got, long want) {
        CHECK.due(call, got, want);
    }

    private static void shut() {
        SongThatStays x = Check.told(CHAIN);
        due("shut(0)", x.shut(0), -9);
        due("shut(1)", x.shut(1), 0);
        due("shut(2)", x.shut(2), 0);
        due("shut(60)", x.shut(60), -9);
        due("the doors stay open", x.count(3), 2);
        x.door(0);
        due("the one is shut already", x.shut(2), -9);
        due("the one stays shut", x.count(3), 1);
        x.door(0);
        due("later with one more in the way", Check.told("d01;d02;ss53;hh00;hh10;hh20;hh20;g00;").shut(1), 1);
        due("of several the first", Check.told("d01;d02;ss53;hh00;hh10;hh20;g00;").shut(1), 0);
        due("two doors between", Check.told("d01;d10;ss53;hh00;hh10;g00;").shut(1), -9);
        due("a shut door is none of them", shutBefore().shut(1), 1);
        due("nobody", new SongThatStays().shut(0), -9);
    }

    private static SongThatStays shutBefore() {
        SongThatStays x = Check.told("d01;d02;ss53;hh00;hh10;hh20;g00;");
        x.door(0);
        return x;
    }

    private static void seats() {
        SongThatStays x = Check.told("ss53;hh00;hh00;hd10;g00;");
        due("seats(0)", x.seats(0), -9);
        due("seats(1)", x.seats(1), 2);
        due("the rooms stay", x.head(0, 1), 0);
        due("not with one behind whom another hears", Check.told("ss53;hd00;hh00;hd10;hd10;hh10;g00;").seats(1), 4);
        due("the first that is less is not the least", Check.told("ss53;hd00;hh00;hh00;hd10;hh10;g00;").seats(1), 4);
        due("not with the first", Check.told("ss53;hd40;hd00;hh00;hd10;g10;").seats(1), 1);
        due("two others", Check.told("d01;d12;d04;ss53;hd00;hd00;hh10;hd30;g00;").seats(1), 3);
        due("23", Check.told("d01;d04;d14;d40;ss53;hd00;hd10;hh40;hd30;g00;g10;").seats(1), 23);
        due("as many", Check.told("ss53;hh00;hh00;hh00;g00;").seats(5), -9);
        due("nobody to change with", Check.told("ss53;hd10;hh10;g00;").seats(1), -9);
        due("nobody", new SongThatStays().seats(60), -9);
    }

    private static void write(String office, int length, int n, int song, int holders) {
        SongThatStays x = Check.told(office);
        String before = Check.all(x);
        due("write " + office + " what 0", x.write(length, n, 0), song);
        due("write " + office + " what 1", x.write(length, n, 1), holders);
        CHECK.due("all is as it was", Check.all(x), before);
    }

    private static void write() {
        write("hw00;hw00;", 1, 0, 0, 1);
        write("hw00;hw00;", 1, 1, 1, 2);
        write("hw00;hw04;", 1, 1, 5, 2);
        write("hd00;", 9, 60, 31, 1);
        write("hd00;", 8, 60, 32, 1);
        // His own song is so strong that the other has to be a jingle.
        write("ss95;hd00;hh00;g10;", 1, 1, 44, 2);
        // In place of his: the other one gets it, for head 0 hums his own no more.
        write("ss95;hh00;hh00;g00;", 9, 1, 1, 2);
        // None of them is left; then it is the first.
        write("sj99;hh00;hd00;g10;", 1, 1, 0, 0);
        write("ss11;ss12;ss13;ss14;hw00;hw00;", 1, 1, 1, 2);
    }

    private static void writeBounds() {
        SongThatStays x = Check.told("ss11;ss12;ss13;ss14;hw00;");
        due("least length, no hours", x.write(1, 0, 1), 1);
        due("greatest length, most hours", x.write(9, 60, 0), 31);
        Check.tell(x, "sl11;");
        due("five songs", x.write(1, 0, 1), -6);
    }

    /**
     * The busy one's own jingle is 44 strong and keeps all others out until it is 14, behind five hours; until then
     * the second hums what pulls as much. Then a hymn alone is loud enough, and of hymns the one that pulls most.
     */
    private static void writeTheLastOfAll() {
        SongThatStays x = Check.told("sl92;sj91;hd00;hd00;hb00;o16;");
        x.hour();
        x.get(1, 0);
        x.get(2, 1);
        due("a hymn that pulls most", x.write(1, 6, 0), 59);
        due("two have it", x.write(1, 6, 1), 2);
        due("an hour less", x.write(1, 5, 1), 1);
    }
}
