/** Promises 30 to 32: the image, on from it, and the counts. */
public final class ImageTest {
    private static final Check CHECK = new Check("ImageTest");

    public static void main(String[] args) {
        onWithoutImage();
        allIsAsThen();
        notInTheImage();
        theLaterImage();
        anEmptyImage();
        count();
        CHECK.end();
    }

    private static void due(String call, long got, long want) {
        CHECK.due(call, got, want);
    }

    private static void onWithoutImage() {
        SongThatStays x = Check.told("hh00;");
        due("no image", x.on(), -3);
        CHECK.due("refused", Check.refusals(x), "0 0 1 0 0 0");
    }

    private static SongThatStays changed() {
        SongThatStays x = Check.told("d01;d12;ss53;sl42;hh00;hh10;hh20;g00;o5;");
        x.door(1);
        x.remedy(0, 2);
        Check.pass(x, 2);
        return x;
    }

    private static void change(SongThatStays x) {
        Check.tell(x, "d34;sj99;hw44;g02;g32;o17;");
        x.door(0);
        x.door(1);
        x.go(1, 3);
        x.remedy(1, 2);
        x.hour();
        x.remedy(0, 0);
    }

    private static void allIsAsThen() {
        SongThatStays x = changed();
        String then = Check.all(x);
        due("image", x.image(), 2);
        CHECK.due("the image changes nothing", Check.all(x), then);
        change(x);
        due("on", x.on(), 2);
        CHECK.due("all is as then", Check.all(x), then);
        change(x);
        due("on once more", x.on(), 2);
        CHECK.due("all is as then once more", Check.all(x), then);
    }

    private static void notInTheImage() {
        SongThatStays x = changed();
        x.row(1);
        x.letter('o');
        x.song(9, 0);
        x.image();
        x.row(2);
        x.letter('7');
        x.song(9, 0);
        x.song(0, 9);
        x.on();
        due("the row stays", x.count(8), 2);
        due("the letters stay", x.count(9), 2);
        CHECK.due("the refusals stay", Check.refusals(x), "2 1 0 0 0 0");
        x.letter(';');
        due("office of them", x.office(), 1);
        due("loud", x.count(5), 7);
        due("on", x.on(), 2);
        due("loud as then", x.count(5), 5);
    }

    private static void theLaterImage() {
        SongThatStays x = changed();
        x.image();
        x.hour();
        due("a later image", x.image(), 3);
        x.hour();
        x.still();
        due("on from the later one", x.on(), 3);
        due("what is imagined is as then", x.hold(1, 0, 1), x.head(1, 4));
    }

    private static void anEmptyImage() {
        SongThatStays x = new SongThatStays();
        due("image of nobody", x.image(), 0);
        Check.tell(x, "d01;ss53;hh00;g00;");
        x.hour();
        due("on", x.on(), 0);
        CHECK.due("nobody", Check.all(x), "0 0 0 0 0 6 0 0 0 0 ");
        due("nobody holds any", x.have(-1, 5), 0);
        due("one comes", Check.tell(x, "ss12;hy34;"), 2);
        CHECK.due("he is as told", Check.head(x, 0), "5 3 4 -9 0 0 0 0 ");
    }

    private static void count() {
        SongThatStays x = changed();
        x.row(0);
        x.row(0);
        x.row(0);
        x.letter('d');
        int[] want = {3, 2, 2, 1, 2, 5, 2, 18, 3, 1, -9, 0, 0, 0, 0, 0, 0, -9};
        for (int what = 0; what < want.length; what++) {
            due("count(" + what + ")", x.count(what), want[what]);
        }
        due("count(-1)", x.count(-1), -9);
        due("count of the least int", x.count(Integer.MIN_VALUE), -9);
        due("count of the greatest int", x.count(Integer.MAX_VALUE), -9);
        CHECK.due("it is no refusal", Check.refusals(x), "0 0 0 0 0 0");
    }
}
