import java.util.Random;

/** Random runs of at most 512 calls, the answers compared with those of the Model; the seeds are fixed. */
public final class ModelTest {
    private static final int RUNS = 1500;
    private static final int CALLS = 512;

    private final Random random;
    private final SongThatStays x = new SongThatStays();
    private final Model m = new Model();
    private final Check check;
    private int calls = 0;

    private ModelTest(long seed, Check check) {
        this.random = new Random(seed);
        this.check = check;
    }

    public static void main(String[] args) {
        Check check = new Check("ModelTest");
        int runs = args.length > 0 ? Integer.parseInt(args[0]) : RUNS;
        for (int run = 0; run < runs; run++) {
            new ModelTest(run, check).run(run);
        }
        check.end();
    }

    private void run(int run) {
        int most = run % 10 == 0 ? CALLS : 60 + random.nextInt(100);
        tell(someOffice());
        while (calls < most) {
            call(run);
        }
    }

    private void due(int run, String call, int got, int want) {
        calls++;
        check.due("run " + run + " call " + calls + " " + call, got, want);
    }

    private int below(int n) {
        return random.nextInt(n);
    }

    /** Mostly one that there is, at times one beyond either end. */
    private int one(int number) {
        return below(12) == 0 ? below(number + 4) - 2 : below(Math.max(1, number));
    }

    private int head() {
        return one(m.now.heads.size());
    }

    private int song() {
        return one(m.now.songs.size());
    }

    private int songOrAny() {
        return below(3) == 0 ? -1 : song();
    }

    private int hours() {
        return below(25) == 0 ? below(66) - 2 : below(2) == 0 ? below(10) : below(61);
    }

    private int what(int number) {
        return below(20) == 0 ? below(number + 3) - 1 : below(number);
    }

    private void tell(String text) {
        for (char c : text.toCharArray()) {
            if (calls < CALLS - 1) {
                due(-1, "letter " + c, x.letter(c), m.letter(c));
            }
        }
        due(-1, "office " + text, x.office(), m.office());
    }

    private String someOffice() {
        StringBuilder text = new StringBuilder();
        for (int i = below(6); i > 0; i--) {
            text.append('d').append(below(5)).append(below(5) == 0 ? 1 : 0).append(';');
        }
        for (int i = 1 + below(5); i > 0; i--) {
            text.append('s').append("slqcjh".charAt(below(6))).append(below(10)).append(1 + below(9)).append(';');
        }
        int heads = 1 + below(6);
        int rooms = 1 + below(4);
        for (int i = 0; i < heads; i++) {
            text.append('h').append("hwdtbyhwty".charAt(below(10))).append(below(rooms)).append(below(7)).append(';');
        }
        for (int i = below(4); i > 0; i--) {
            text.append('g').append(below(heads)).append(below(2)).append(';');
        }
        return text.substring(0, text.length()).replaceAll("d00;|d11;", "");
    }

    private String someLetters() {
        StringBuilder text = new StringBuilder();
        for (int i = 1 + below(3); i > 0; i--) {
            switch (below(6)) {
                case 0 -> text.append('d').append(below(6)).append(below(6));
                case 1 -> text.append('s').append("slqcjhx".charAt(below(7))).append(below(10)).append(below(10));
                case 2 -> text.append('h').append("hwdtbyx".charAt(below(7))).append(below(6)).append(below(10));
                case 3 -> text.append('g').append(below(7)).append(below(6));
                case 4 -> text.append('o').append(below(25));
                default -> text.append("dshgo;0x".charAt(below(8)));
            }
            text.append(below(12) == 0 ? "" : ";");
        }
        return text.toString();
    }

    private void call(int run) {
        int a = head();
        int s = song();
        int n = hours();
        int w = what(2);
        switch (below(40)) {
            case 0 -> tell(someLetters());
            case 1, 2 -> due(run, "song", x.song(s, w = what(5)), m.song(s, w));
            case 3, 4, 5 -> due(run, "head", x.head(a, w = what(8)), m.head(a, w));
            case 6 -> due(run, "near " + a, x.near(a), m.near(a));
            case 7 -> due(run, "door " + (n = one(m.now.doors.size())), x.door(n), m.door(n));
            case 8 -> due(run, "go", x.go(a, n = one(5)), m.go(a, n));
            case 9, 10 -> due(run, "get", x.get(a, s = songOrAny()), m.get(a, s));
            case 11 -> due(run, "remedy", x.remedy(a, w = what(3)), m.remedy(a, w));
            case 12 -> due(run, "loud", x.loud(n = 1 + one(20)), m.loud(n));
            case 13, 14, 15 -> due(run, "hour", x.hour(), m.hour());
            case 16, 17 -> due(run, "hold", x.hold(a, n, w), m.hold(a, n, w));
            case 18 -> due(run, "have", x.have(s = songOrAny(), n), m.have(s, n));
            case 19 -> due(run, "takes", x.takes(a, s), m.takes(a, s));
            case 20 -> due(run, "still", x.still(), m.still());
            case 21 -> due(run, "most", x.most(s = songOrAny(), n, w), m.most(s, n, w));
            case 22 -> due(run, "lasts", x.lasts(n), m.lasts(n));
            case 23 -> due(run, "from", x.from(a, n), m.from(a, n));
            case 24 -> due(run, "first", x.first(a, n), m.first(a, n));
            case 25 -> due(run, "rid", x.rid(a, w), m.rid(a, w));
            case 26 -> due(run, "instead", x.instead(a), m.instead(a));
            case 27 -> due(run, "shut", x.shut(n), m.shut(n));
            case 28 -> due(run, "seats", x.seats(n), m.seats(n));
            case 29 -> write(run, 1 + one(9), n, w);
            case 30, 31 -> row(run);
            case 32, 33 -> otherwise(run, n, w);
            case 34 -> due(run, "judge", x.judge(), m.judge());
            case 35 -> due(run, "seeds", x.seeds(n, a = random.nextInt()), m.seeds(n, a));
            case 36 -> due(run, "image", x.image(), m.image());
            case 37 -> due(run, "on", x.on(), m.on());
            default -> due(run, "count " + (w = below(20) - 1), x.count(w), m.count(w));
        }
    }

    private void write(int run, int length, int n, int w) {
        due(run, "write(" + length + ", " + n + ", " + w + ")", x.write(length, n, w), m.write(length, n, w));
    }

    private void row(int run) {
        int v = below(10) == 0 ? below(14) - 2 : below(3) == 0 ? 9 : song();
        due(run, "row " + v, x.row(v), m.row(v));
    }

    /** The row is told as the office will be with one head changed, so that there are ways to find. */
    private void otherwise(int run, int n, int w) {
        if (below(2) == 0 && n >= 0 && n <= 60 && !m.now.heads.isEmpty() && calls < CALLS - 10) {
            due(run, "judge", x.judge(), m.judge());
            int head = below(m.now.heads.size());
            int song = below(m.now.songs.size() + 1) - 1;
            for (int v : Model.rowOf(m.now.with(o -> o.give(head, song)).worlds(n).get(n))) {
                due(run, "row " + v, x.row(v), m.row(v));
            }
        }
        due(run, "otherwise(" + n + ", " + w + ")", x.otherwise(n, w), m.otherwise(n, w));
    }
}
