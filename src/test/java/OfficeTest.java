/** Promises 1 to 3: a new object, letters, the office that they tell and its faults. */
public final class OfficeTest {
    private static final Check CHECK = new Check("OfficeTest");

    public static void main(String[] args) {
        aNewObject();
        letters();
        letterRefusals();
        statements();
        faultsOfLetters();
        faultsOfStatements();
        fullness();
        aFaultChangesNothing();
        CHECK.end();
    }

    private static void due(String call, long got, long want) {
        CHECK.due(call, got, want);
    }

    private static void fault(String text, int want) {
        SongThatStays x = new SongThatStays();
        due("office " + text, Check.tell(x, text), want);
        due("letters behind " + text, x.count(9), 0);
        CHECK.due("nothing is counted with " + text, Check.refusals(x), "0 0 0 0 0 0");
        CHECK.due("nothing comes with " + text, Check.all(x), "0 0 0 0 0 6 0 0 0 0 ");
    }

    private static void aNewObject() {
        SongThatStays x = new SongThatStays();
        CHECK.due("new", Check.all(x), "0 0 0 0 0 6 0 0 0 0 ");
        CHECK.due("new refusals", Check.refusals(x), "0 0 0 0 0 0");
        due("new on", x.on(), -3);
        Check.tell(x, "hh00;");
        for (int room = 1; room <= 4; room++) {
            due("five rooms", x.go(0, room), room - 1);
        }
        due("no sixth room", x.go(0, 5), -1);
    }

    private static void letters() {
        SongThatStays x = new SongThatStays();
        due("letter least", x.letter(0), 1);
        due("letter greatest", x.letter(255), 2);
        due("letters", x.count(9), 2);
        due("office of strange letters", x.office(), -1000);
        due("letters are no more", x.count(9), 0);
        due("letter again", x.letter('o'), 1);
    }

    private static void letterRefusals() {
        SongThatStays x = new SongThatStays();
        due("letter below", x.letter(-1), -4);
        due("letter above", x.letter(256), -6);
        for (int i = 1; i <= 96; i++) {
            due("letter " + i, x.letter(i == 1 ? 'o' : i % 3 == 1 ? 'o' : i % 3 == 2 ? '5' : ';'), i);
        }
        due("letter 97", x.letter('o'), -6);
        due("letter below when full", x.letter(-1), -4);
        due("letter above when full", x.letter(256), -6);
        CHECK.due("letter refusals", Check.refusals(x), "0 0 0 2 0 3");
        due("letters when full", x.count(9), 96);
        due("office of 96 letters", x.office(), 32);
        due("loud then", x.count(5), 5);
    }

    private static void statements() {
        SongThatStays x = new SongThatStays();
        due("office", Check.tell(x, "d04;d40;sh09;ss91;hy49;hb00;g01;o07;o20;o1;"), 10);
        CHECK.due("all", Check.all(x), "2 2 2 2 0 1 1 19 0 0 "
                + "| 5 0 9 9 0 | 0 9 1 19 1 / 5 4 9 1 19 0 0 1 2 / 4 0 0 -9 0 0 3 0 1 ");
        due("more of it", Check.tell(x, "hd11;g21;g10;"), 3);
        due("three heads", x.count(0), 3);
        due("the third has it", x.head(2, 3), 1);
        due("the second has it", x.head(1, 4), 9);
        due("told in place of his own", Check.tell(x, "g10;g11;"), 2);
        due("the later one", x.head(1, 3), 1);
        due("its strength", x.head(1, 4), 19);
        due("gum stays", x.remedy(1, 2), 19);
        due("told once more", Check.tell(x, "g10;"), 1);
        due("gum then", x.head(1, 5), 3);
        String songKinds = "slqcj";
        String headKinds = "hwdtby";
        SongThatStays y = new SongThatStays();
        due("all kinds of songs", Check.tell(y, "ss11;sl11;sq11;sc11;sj11;"), 5);
        due("all kinds of heads", Check.tell(y, "hh11;hw11;hd11;ht11;hb11;hy11;"), 6);
        for (int i = 0; i < songKinds.length(); i++) {
            due("kind of song " + i, y.song(i, 0), i);
        }
        for (int i = 0; i < headKinds.length(); i++) {
            due("kind of head " + i, y.head(i, 0), i);
        }
    }

    private static void faultsOfLetters() {
        fault("", -1000);
        fault(";", -1000);
        fault("x", -1000);
        fault("D01;", -1000);
        fault("d", -1001);
        fault("d0", -1002);
        fault("d01", -1003);
        fault("d0;", -1002);
        fault("d;", -1001);
        fault("d012;", -1003);
        fault("d01;;", -1004);
        fault("d01;x", -1004);
        fault("d01; ", -1004);
        fault("s", -1001);
        fault("sw11;", -1001);
        fault("ss", -1002);
        fault("ss1", -1003);
        fault("ss1;", -1003);
        fault("ss111;", -1004);
        fault("hs00;", -1001);
        fault("hq00;", -1001);
        fault("h00;", -1001);
        fault("hh0", -1003);
        fault("g0;", -1002);
        fault("gh0;", -1001);
        fault("g00", -1003);
        fault("o;", -1001);
        fault("o", -1001);
        fault("o1", -1002);
        fault("o10", -1003);
        fault("o100;", -1003);
        fault("o-1;", -1001);
        fault("d00;x", -1004);
        fault("o0;ss10;hh50;d", -1014);
        SongThatStays x = new SongThatStays();
        StringBuilder text = new StringBuilder();
        for (int i = 0; i < 32; i++) {
            text.append("o5;");
        }
        text.setCharAt(95, '5');
        due("96 letters that lack one", Check.tell(x, text.toString()), -1096);
        text.setCharAt(95, (char) 187);
        due("a strange last letter", Check.tell(x, text.toString()), -1095);
        SongThatStays y = Check.told("d01;d12;o12;");
        due("the letters before are no more", Check.tell(y, "d01"), -1003);
        due("none of them", Check.tell(y, ""), -1000);
        due("a digit before is no more", Check.tell(y, "o1"), -1002);
    }

    private static void faultsOfStatements() {
        fault("d00;", -2000);
        fault("d44;", -2000);
        fault("d05;", -2000);
        fault("d50;", -2000);
        fault("d99;", -2000);
        fault("ss10;", -2000);
        fault("ss01;sq90;", -2005);
        fault("hh50;", -2000);
        fault("hh49;hy90;", -2005);
        fault("g00;", -2000);
        fault("hh00;g00;ss11;", -2005);
        fault("ss11;g00;hh00;", -2005);
        fault("hh00;ss11;g10;", -2010);
        fault("hh00;ss11;g01;", -2010);
        fault("o0;", -2000);
        fault("o00;", -2000);
        fault("o21;", -2000);
        fault("o20;o1;o01;o99;", -2011);
        fault("o0;d00;", -2000);
    }

    private static void fullness() {
        SongThatStays x = new SongThatStays();
        due("eight doors", Check.tell(x, "d01;d02;d03;d04;d12;d13;d14;d23;"), 8);
        due("a ninth door", Check.tell(x, "o9;d24;"), -2003);
        due("five songs", Check.tell(x, "ss11;ss12;ss13;ss14;ss15;"), 5);
        due("a sixth song", Check.tell(x, "ss16;"), -2000);
        due("six heads", Check.tell(x, "hh00;hh00;hh00;hh00;hh00;hh00;"), 6);
        due("a seventh head", Check.tell(x, "g54;hh00;"), -2004);
        due("doors", x.count(2), 8);
        due("open doors", x.count(3), 8);
        due("songs", x.count(1), 5);
        due("heads", x.count(0), 6);
        due("loud", x.count(5), 6);
        due("nobody has a song", x.count(6), 0);
        SongThatStays y = new SongThatStays();
        due("nine doors", Check.tell(y, "d01;d01;d01;d01;d01;d01;d01;d01;d01;"), -2032);
        due("six songs", Check.tell(y, "ss11;ss11;ss11;ss11;ss11;ss11;"), -2025);
        due("seven heads", Check.tell(y, "hh00;hh00;hh00;hh00;hh00;hh00;hh00;"), -2030);
        CHECK.due("nothing came", Check.all(y), "0 0 0 0 0 6 0 0 0 0 ");
    }

    private static void aFaultChangesNothing() {
        SongThatStays x = Check.told("d01;ss53;hh00;g00;o8;");
        x.door(0);
        x.hour();
        x.row(3);
        String before = Check.all(x);
        due("fault behind good ones", Check.tell(x, "d12;ss99;hw11;g11;g01;o3;d00;"), -2025);
        CHECK.due("all is as it was", Check.all(x), before);
        due("fault of a letter behind good ones", Check.tell(x, "d12;ss99;hw11;g11;o3;?"), -1021);
        CHECK.due("all is still as it was", Check.all(x), before);
        due("without fault", Check.tell(x, "d12;ss99;hw11;g11;g01;o3;"), 6);
        CHECK.due("all comes", Check.all(x), "2 2 2 1 1 3 2 54 1 0 "
                + "| 0 5 3 13 0 | 0 9 9 27 2 / 0 0 0 1 27 0 0 1 0 / 1 1 1 1 27 0 1 1 0 ");
    }
}
