/** Compares answers with those that are due, and tells offices in letters. */
final class Check {
    private final String name;
    private int looked = 0;
    private int wrong = 0;

    Check(String name) {
        this.name = name;
    }

    void due(String call, long got, long want) {
        looked++;
        if (got != want) {
            wrong++;
            System.out.println(name + ": " + call + " answered " + got + ", due is " + want);
        }
    }

    void due(String call, String got, String want) {
        looked++;
        if (!got.equals(want)) {
            wrong++;
            System.out.println(name + ": " + call + " answered " + got + ", due is " + want);
        }
    }

    /** Prints how it went, and ends the run with exit code 1 if an answer was wrong. */
    void end() {
        System.out.println(name + ": " + looked + " answers, " + wrong + " wrong");
        if (wrong != 0 || looked == 0) {
            System.exit(1);
        }
    }

    /** A new object with that office; told in parts where it has more letters than one text may have. */
    static SongThatStays told(String... parts) {
        SongThatStays x = new SongThatStays();
        for (String part : parts) {
            int answer = tell(x, part);
            if (answer < 1) {
                throw new IllegalStateException(part + " answered " + answer);
            }
        }
        return x;
    }

    static int tell(SongThatStays x, String text) {
        for (int i = 0; i < text.length(); i++) {
            x.letter(text.charAt(i));
        }
        return x.office();
    }

    static void tellRow(SongThatStays x, int... row) {
        for (int v : row) {
            x.row(v);
        }
    }

    static void pass(SongThatStays x, int hours) {
        for (int i = 0; i < hours; i++) {
            x.hour();
        }
    }

    /** All that the face shows of how all is, but for the refusals (89 calls at most). */
    static String all(SongThatStays x) {
        StringBuilder all = new StringBuilder();
        for (int what = 0; what <= 9; what++) {
            all.append(x.count(what)).append(' ');
        }
        for (int song = 0; song < x.count(1); song++) {
            all.append("| ");
            for (int what = 0; what <= 4; what++) {
                all.append(x.song(song, what)).append(' ');
            }
        }
        for (int head = 0; head < x.count(0); head++) {
            all.append("/ ").append(head(x, head)).append(x.near(head)).append(' ');
        }
        return all.toString();
    }

    static String head(SongThatStays x, int head) {
        StringBuilder all = new StringBuilder();
        for (int what = 0; what <= 7; what++) {
            all.append(x.head(head, what)).append(' ');
        }
        return all.toString();
    }

    /** Song and strength of each head. */
    static String songs(SongThatStays x) {
        StringBuilder all = new StringBuilder();
        for (int head = 0; head < x.count(0); head++) {
            all.append(head == 0 ? "" : " ").append(x.head(head, 3)).append(':').append(x.head(head, 4));
        }
        return all.toString();
    }

    static String refusals(SongThatStays x) {
        StringBuilder all = new StringBuilder();
        for (int what = 11; what <= 16; what++) {
            all.append(what == 11 ? "" : " ").append(x.count(what));
        }
        return all.toString();
    }
}
