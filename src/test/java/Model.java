import java.util.ArrayList;
import java.util.Collections;
import java.util.Comparator;
import java.util.HashSet;
import java.util.List;
import java.util.Optional;
import java.util.Set;
import java.util.TreeSet;
import java.util.function.Consumer;
import java.util.function.IntPredicate;
import java.util.regex.Matcher;
import java.util.regex.Pattern;

/**
 * The document once more, written another way: each hour makes a new world, what is asked in mind is
 * looked up in the list of all worlds, and who had a song from whom is found by going back in it.
 */
final class Model {
    static final int NONE = -9;

    record Door(int a, int b, boolean open) { }

    record Song(char kind, int pull, int length) {
        int fresh() {
            int plain = pull + pull + length;
            return kind == 'q' ? plain + 3 : kind == 'j' ? (plain + 3) + (plain + 3) : plain;
        }

        int change(int hour) {
            boolean sixth = hour % 6 == 0;
            boolean odd = hour % 2 != 0;
            return switch (kind) {
                case 's' -> -2;
                case 'l' -> -1;
                case 'q' -> -3;
                case 'j' -> -6;
                case 'c' -> sixth ? 4 : -1;
                case 'h' -> odd ? 0 : -1;
                default -> throw new IllegalStateException();
            };
        }
    }

    record Head(char kind, int room, int resist, int song, int strength, int gum) {
        int bar() {
            return switch (kind) {
                case 'h', 'w' -> resist;
                case 'd' -> 99;
                case 't' -> resist >> 1;
                case 'b' -> resist + 3;
                case 'y' -> 0;
                default -> throw new IllegalStateException();
            };
        }

        boolean hums(int hour, int loud) {
            return switch (kind) {
                case 'h', 'd', 't' -> strength >= loud;
                case 'w' -> song != NONE;
                case 'y' -> song != NONE && hour % 2 == 0;
                case 'b' -> false;
                default -> throw new IllegalStateException();
            };
        }

        Head in(int other) {
            return new Head(kind, other, resist, song, strength, gum);
        }

        Head holding(int other, int strong) {
            return strong > 0 ? new Head(kind, room, resist, other, Math.min(60, strong), gum)
                    : new Head(kind, room, resist, NONE, 0, gum);
        }

        Head chewing(int hours) {
            return new Head(kind, room, resist, song, strength, hours);
        }
    }

    static final class World {
        List<Door> doors = new ArrayList<>();
        List<Song> songs = new ArrayList<>();
        List<Head> heads = new ArrayList<>();
        int hour = 0;
        int loud = 6;
        int got = 0;

        World copy() {
            World w = new World();
            w.doors.addAll(doors);
            w.songs.addAll(songs);
            w.heads.addAll(heads);
            w.hour = hour;
            w.loud = loud;
            return w;
        }

        World with(Consumer<World> change) {
            World w = copy();
            change.accept(w);
            return w;
        }

        boolean near(int one, int other) {
            int a = heads.get(one).room();
            int b = heads.get(other).room();
            boolean through = doors.stream().anyMatch(d -> d.open()
                    && (d.a() == a && d.b() == b || d.a() == b && d.b() == a));
            return one != other && (a == b || through);
        }

        Set<Integer> humming(int head, int song) {
            Set<Integer> all = new TreeSet<>();
            for (int i = 0; i < heads.size(); i++) {
                if (near(head, i) && heads.get(i).song() == song && heads.get(i).hums(hour, loud)) {
                    all.add(i);
                }
            }
            return all;
        }

        void give(int head, int song) {
            heads.set(head, heads.get(head).holding(song, song < 0 ? 0 : songs.get(song).fresh()));
        }

        World next() {
            World w = copy();
            for (int i = 0; i < heads.size(); i++) {
                Head head = heads.get(i);
                List<Integer> heard = new ArrayList<>();
                for (int s = 0; s < songs.size(); s++) {
                    if (s != head.song() && !humming(i, s).isEmpty()) {
                        heard.add(s);
                    }
                }
                Optional<Integer> best = heard.stream().max(Comparator
                        .comparingInt((Integer s) -> songs.get(s).pull()).thenComparing(Collections.reverseOrder()));
                Head after = head;
                if (best.isPresent() && songs.get(best.get()).pull() > head.bar()
                        && songs.get(best.get()).fresh() > head.strength()) {
                    after = head.holding(best.get(), songs.get(best.get()).fresh());
                    w.got++;
                } else if (head.song() != NONE) {
                    int change = songs.get(head.song()).change(hour) - (head.gum() > 0 ? 1 : 0);
                    after = head.holding(head.song(), head.strength() + change);
                }
                w.heads.set(i, after.chewing(Math.max(0, head.gum() - 1)));
            }
            w.hour++;
            return w;
        }

        List<World> worlds(int n) {
            List<World> all = new ArrayList<>();
            all.add(this);
            for (int i = 0; i < n; i++) {
                all.add(all.get(i).next());
            }
            return all;
        }

        int holders(int song) {
            return (int) heads.stream().filter(h -> h.song() != NONE && (song == -1 || h.song() == song)).count();
        }
    }

    World now = new World();
    World image = null;
    StringBuilder letters = new StringBuilder();
    List<Integer> row = new ArrayList<>();
    int[] refusals = new int[7];

    int no(int refusal) {
        refusals[-refusal]++;
        return refusal;
    }

    boolean noHead(int head) {
        return head < 0 || head >= now.heads.size();
    }

    boolean noSong(int song) {
        return song < 0 || song >= now.songs.size();
    }

    int letter(int c) {
        if (c < 0) return no(-4);
        if (c > 255 || letters.length() == 96) return no(-6);
        letters.append((char) c);
        return letters.length();
    }

    private static final Pattern STATEMENT = Pattern.compile(
            "d[0-9][0-9];|s[slqcjh][0-9][0-9];|h[hwdtby][0-9][0-9];|g[0-9][0-9];|o[0-9][0-9]?;");

    /** Whether some text goes on from this one: one of a few tails makes it whole. */
    private static boolean canGoOn(String start) {
        for (String tail : List.of("", ";", "1;", "11;", "s11;", "h11;", "o1;")) {
            if ((start + tail).matches("(" + STATEMENT + ")+")) {
                return true;
            }
        }
        return false;
    }

    int office() {
        String text = letters.toString();
        letters.setLength(0);
        for (int i = 0; i < text.length(); i++) {
            if (!canGoOn(text.substring(0, i + 1))) return -1000 - i;
        }
        if (!text.matches("(" + STATEMENT + ")+")) return -1000 - text.length();
        World w = now.copy();
        Matcher m = STATEMENT.matcher(text);
        int count = 0;
        while (m.find()) {
            if (!obey(w, m.group())) return -2000 - m.start();
            count++;
        }
        now = w;
        return count;
    }

    private static boolean obey(World w, String s) {
        int a = s.charAt(1) - '0';
        int b = s.charAt(2) - '0';
        int c = s.length() > 3 ? s.charAt(3) - '0' : 0;
        switch (s.charAt(0)) {
            case 'd':
                if (a > 4 || b > 4 || a == b || w.doors.size() == 8) return false;
                return w.doors.add(new Door(a, b, true));
            case 's':
                if (c == 0 || w.songs.size() == 5) return false;
                return w.songs.add(new Song(s.charAt(1), b, c));
            case 'h':
                if (b > 4 || w.heads.size() == 6) return false;
                return w.heads.add(new Head(s.charAt(1), b, c, NONE, 0, 0));
            case 'g':
                if (a >= w.heads.size() || b >= w.songs.size()) return false;
                w.give(a, b);
                return true;
            default:
                int v = Integer.parseInt(s.substring(1, s.length() - 1));
                if (v < 1 || v > 20) return false;
                w.loud = v;
                return true;
        }
    }

    int song(int song, int what) {
        if (noSong(song)) return no(-1);
        Song s = now.songs.get(song);
        return switch (what) {
            case 0 -> "slqcjh".indexOf(s.kind());
            case 1 -> s.pull();
            case 2 -> s.length();
            case 3 -> s.fresh();
            case 4 -> now.holders(song);
            default -> no(-2);
        };
    }

    int head(int head, int what) {
        if (noHead(head)) return no(-1);
        Head h = now.heads.get(head);
        return switch (what) {
            case 0 -> "hwdtby".indexOf(h.kind());
            case 1 -> h.room();
            case 2 -> h.resist();
            case 3 -> h.song();
            case 4 -> h.strength();
            case 5 -> h.gum();
            case 6 -> h.bar();
            case 7 -> h.hums(now.hour, now.loud) ? 1 : 0;
            default -> no(-2);
        };
    }

    int near(int head) {
        if (noHead(head)) return no(-1);
        int bits = 0;
        for (int i = 0; i < now.heads.size(); i++) {
            if (now.near(head, i)) bits += (int) Math.pow(2, i);
        }
        return bits;
    }

    int door(int door) {
        if (door < 0 || door >= now.doors.size()) return no(-1);
        Door d = now.doors.get(door);
        now.doors.set(door, new Door(d.a(), d.b(), !d.open()));
        return d.open() ? 0 : 1;
    }

    int go(int head, int room) {
        if (noHead(head) || room < 0 || room > 4) return no(-1);
        int was = now.heads.get(head).room();
        now.heads.set(head, now.heads.get(head).in(room));
        return was;
    }

    int get(int head, int song) {
        if (noHead(head) || song != -1 && noSong(song)) return no(-1);
        int was = now.heads.get(head).song();
        now.give(head, song);
        return was;
    }

    static void treat(World w, int head, int what) {
        Head h = w.heads.get(head);
        w.heads.set(head, switch (what) {
            case 0 -> h.holding(h.song(), h.strength() / 2);
            case 1 -> h.holding(h.song(), h.strength() - 4);
            case 2 -> h.chewing(3);
            default -> h;
        });
    }

    int remedy(int head, int what) {
        if (noHead(head)) return no(-1);
        if (what < 0 || what > 2) return no(-2);
        if (what < 2 && now.heads.get(head).song() == NONE) return no(-3);
        treat(now, head, what);
        return now.heads.get(head).strength();
    }

    int loud(int v) {
        if (v < 1) return no(-4);
        if (v > 20) return no(-6);
        int was = now.loud;
        now.loud = v;
        return was;
    }

    int hour() {
        if (now.hour == 999) return no(-6);
        now = now.next();
        return now.got;
    }

    int refusalOf(boolean nobody, int least, int n, int most) {
        return nobody ? -1 : n < least ? -4 : n > most ? -6 : 0;
    }

    int hold(int head, int n, int what) {
        int r = refusalOf(noHead(head), 0, n, 60);
        if (r == 0 && what != 0 && what != 1) r = -2;
        if (r != 0) return no(r);
        Head h = now.worlds(n).get(n).heads.get(head);
        return what == 0 ? h.song() : h.strength();
    }

    int have(int song, int n) {
        int r = refusalOf(song != -1 && noSong(song), 0, n, 60);
        if (r != 0) return no(r);
        return now.worlds(n).get(n).holders(song);
    }

    static int firstThat(List<World> worlds, IntPredicate is) {
        for (int i = 0; i < worlds.size(); i++) {
            if (is.test(i)) return i;
        }
        return NONE;
    }

    int takes(int head, int song) {
        if (noHead(head) || noSong(song)) return no(-1);
        List<World> all = now.worlds(60);
        return firstThat(all, i -> all.get(i).heads.get(head).song() == song);
    }

    int still() {
        List<World> all = now.worlds(60);
        return firstThat(all, i -> all.get(i).holders(-1) == 0);
    }

    int most(int song, int n, int what) {
        int r = refusalOf(song != -1 && noSong(song), 0, n, 60);
        if (r == 0 && what != 0 && what != 1) r = -2;
        if (r != 0) return no(r);
        List<World> all = now.worlds(n);
        int top = all.stream().mapToInt(w -> w.holders(song)).max().getAsInt();
        return what == 1 ? top : firstThat(all, i -> all.get(i).holders(song) == top);
    }

    int lasts(int n) {
        int r = refusalOf(false, 0, n, 60);
        if (r != 0) return no(r);
        World w = now.worlds(n).get(n);
        int best = NONE;
        for (int s = now.songs.size() - 1; s >= 0; s--) {
            if (w.holders(s) > 0 && (best == NONE || w.holders(s) >= w.holders(best))) best = s;
        }
        return best;
    }

    /** The hour (its number in the list) ahead of which he had not what he has in worlds[n]; -1 if he always had. */
    static int gotIn(List<World> worlds, int head, int n) {
        int song = worlds.get(n).heads.get(head).song();
        for (int i = n - 1; i >= 0; i--) {
            if (worlds.get(i).heads.get(head).song() != song) return i;
        }
        return -1;
    }

    int from(int head, int n) {
        int r = refusalOf(noHead(head), 0, n, 60);
        if (r != 0) return no(r);
        List<World> all = now.worlds(n);
        int song = all.get(n).heads.get(head).song();
        int i = gotIn(all, head, n);
        return song == NONE ? NONE : i < 0 ? head : all.get(i).humming(head, song).iterator().next();
    }

    int first(int head, int n) {
        int r = refusalOf(noHead(head), 0, n, 60);
        if (r != 0) return no(r);
        List<World> all = now.worlds(n);
        int song = all.get(n).heads.get(head).song();
        if (song == NONE) return NONE;
        int who = head;
        int when = gotIn(all, who, n);
        while (when >= 0) {
            who = all.get(when).humming(who, song).iterator().next();
            when = gotIn(all, who, when);
        }
        return who;
    }

    static int ridOf(World w, int head) {
        List<World> all = w.worlds(60);
        int n = firstThat(all, i -> all.get(i).heads.get(head).song() == NONE);
        return n == NONE ? 1000 : n;
    }

    int rid(int head, int what) {
        if (noHead(head)) return no(-1);
        if (what != 0 && what != 1) return no(-2);
        if (now.heads.get(head).song() == NONE) return no(-3);
        int best = 1000;
        int by = NONE;
        for (int r = 3; r >= 0; r--) {
            int remedy = r;
            int hours = ridOf(now.with(w -> treat(w, head, remedy)), head);
            if (hours <= best && hours < 1000) {
                best = hours;
                by = r;
            }
        }
        return what == 0 || by == NONE ? by : best;
    }

    int instead(int head) {
        if (noHead(head)) return no(-1);
        int own = now.heads.get(head).song();
        if (own == NONE) return no(-3);
        List<Integer> hours = new ArrayList<>();
        for (int s = 0; s < now.songs.size(); s++) {
            int song = s;
            hours.add(s == own ? ridOf(now, head) : ridOf(now.with(w -> w.give(head, song)), head));
        }
        int least = Collections.min(hours);
        return least < hours.get(own) ? hours.indexOf(least) : NONE;
    }

    int shut(int n) {
        int r = refusalOf(false, 0, n, 60);
        if (r != 0) return no(r);
        int least = now.worlds(n).get(n).holders(-1);
        int best = NONE;
        for (int i = 0; i < now.doors.size(); i++) {
            Door d = now.doors.get(i);
            int door = i;
            World w = now.with(v -> v.doors.set(door, new Door(d.a(), d.b(), false)));
            int left = w.worlds(n).get(n).holders(-1);
            if (left < least) {
                least = left;
                best = i;
            }
        }
        return best;
    }

    int seats(int n) {
        int r = refusalOf(false, 0, n, 60);
        if (r != 0) return no(r);
        int least = now.worlds(n).get(n).holders(-1);
        int best = NONE;
        for (int pair = 1; pair < 56; pair++) {
            int a = pair / 10;
            int b = pair % 10;
            if (a < b && b < now.heads.size()) {
                World w = now.with(v -> {
                    int room = v.heads.get(a).room();
                    v.heads.set(a, v.heads.get(a).in(v.heads.get(b).room()));
                    v.heads.set(b, v.heads.get(b).in(room));
                });
                int left = w.worlds(n).get(n).holders(-1);
                if (left < least) {
                    least = left;
                    best = pair;
                }
            }
        }
        return best;
    }

    int write(int length, int n, int what) {
        if (length < 1 || n < 0) return no(-4);
        if (length > 9 || n > 60 || now.songs.size() == 5) return no(-6);
        if (what != 0 && what != 1) return no(-2);
        if (now.heads.isEmpty()) return no(-3);
        int most = -1;
        int best = NONE;
        int song = now.songs.size();
        for (int i = 0; i < 60; i++) {
            Song s = new Song("slqcjh".charAt(i / 10), i % 10, length);
            World w = now.with(v -> {
                v.songs.add(s);
                v.give(0, song);
            });
            int have = w.worlds(n).get(n).holders(song);
            if (have > most) {
                most = have;
                best = i;
            }
        }
        return what == 0 ? best : most;
    }

    int row(int v) {
        if (v < 0) return no(-4);
        if (v > 9 || row.size() == 6) return no(-6);
        row.add(v);
        return row.size();
    }

    static List<Integer> rowOf(World w) {
        List<Integer> all = new ArrayList<>();
        w.heads.forEach(h -> all.add(h.song() == NONE ? 9 : h.song()));
        return all;
    }

    int otherwise(int n, int what) {
        int r = refusalOf(false, 0, n, 60);
        if (r == 0 && what != 0 && what != 1) r = -2;
        if (r == 0 && row.size() != now.heads.size()) r = -3;
        if (r != 0) return no(r);
        Set<Integer> ways = new TreeSet<>();
        for (int h = 0; h < now.heads.size(); h++) {
            Set<Integer> others = new HashSet<>();
            for (int s = 0; s < now.songs.size(); s++) others.add(s);
            others.add(NONE);
            others.remove(now.heads.get(h).song());
            for (int s : others) {
                int head = h;
                World w = now.with(v -> v.give(head, s));
                if (rowOf(w.worlds(n).get(n)).equals(row)) ways.add(10 * h + (s == NONE ? 9 : s));
            }
        }
        return what == 0 ? ways.size() : ways.isEmpty() ? NONE : ways.iterator().next();
    }

    int judge() {
        List<Integer> told = row;
        List<Integer> is = rowOf(now);
        row = new ArrayList<>();
        for (int i = 0; i < 6; i++) {
            if (i == told.size() && i == is.size()) return NONE;
            if (i == told.size() || i == is.size()) return i;
            if (!told.get(i).equals(is.get(i))) return i;
        }
        return NONE;
    }

    int seeds(int n, int z) {
        int r = refusalOf(false, 1, n, 40);
        if (r != 0) return no(r);
        World w = now.copy();
        int seed = z;
        for (int i = 0; i < n; i++) {
            for (int h = 0; h < w.heads.size(); h++) {
                seed = (int) (seed * 1664525L + 1013904223L);
                w.heads.set(h, w.heads.get(h).in(((seed << 1 >>> 1) / 256) % 5));
            }
            w = w.next();
        }
        return w.holders(-1);
    }

    int image() {
        image = now.copy();
        return image.hour;
    }

    int on() {
        if (image == null) return no(-3);
        now = image.copy();
        return now.hour;
    }

    int count(int what) {
        return switch (what) {
            case 0 -> now.heads.size();
            case 1 -> now.songs.size();
            case 2 -> now.doors.size();
            case 3 -> (int) now.doors.stream().filter(Door::open).count();
            case 4 -> now.hour;
            case 5 -> now.loud;
            case 6 -> now.holders(-1);
            case 7 -> now.heads.stream().mapToInt(Head::strength).sum();
            case 8 -> row.size();
            case 9 -> letters.length();
            case 11, 12, 13, 14, 15, 16 -> refusals[what - 10];
            default -> NONE;
        };
    }
}
