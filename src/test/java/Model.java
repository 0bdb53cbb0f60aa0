import java.util.ArrayDeque;
import java.util.ArrayList;
import java.util.Arrays;
import java.util.Comparator;
import java.util.Deque;
import java.util.HashMap;
import java.util.HashSet;
import java.util.List;
import java.util.Map;
import java.util.Set;

/** The document written a second time, by trying all there is, with no thought for time or room. */
final class Model {
    private static final int NONE = -1, UNKNOWN = -1000000001, OUTSIDE = -1000000002, NOT = -1000000003, FULL = -1000000004;

    private static final class Bridge {
        int a, b, air, q;
    }

    private static final class Keeper {
        int kind, r, bridge = NONE, tired;

        Keeper copy() {
            Keeper c = new Keeper();
            c.kind = kind;
            c.r = r;
            c.bridge = bridge;
            c.tired = tired;
            return c;
        }
    }

    private static final class Jumper {
        int kind, place, doubt, over, dried;

        Jumper copy() {
            Jumper c = new Jumper();
            c.kind = kind;
            c.place = place;
            c.doubt = doubt;
            c.over = over;
            c.dried = dried;
            return c;
        }
    }

    private static final class Doings {
        int hours;
        final List<Keeper> keepers = new ArrayList<>();
        final List<Jumper> jumpers = new ArrayList<>();
        final List<int[]> roll = new ArrayList<>();

        Doings copy() {
            Doings c = new Doings();
            c.hours = hours;
            keepers.forEach(k -> c.keepers.add(k.copy()));
            jumpers.forEach(j -> c.jumpers.add(j.copy()));
            c.roll.addAll(roll);
            return c;
        }
    }

    private static final class Told {
        int places;
        final List<Bridge> bridges = new ArrayList<>();
        final Doings doings = new Doings();
    }

    private static final class Fault extends RuntimeException {
        private static final long serialVersionUID = 1L;
        final int number, at;

        Fault(int number, int at) {
            this.number = number;
            this.at = at;
        }
    }

    private final StringBuilder text = new StringBuilder();
    private int faultAt = NONE;
    private int places;
    private List<Bridge> bridges = new ArrayList<>();
    private Doings now = new Doings();
    private final Deque<Doings> past = new ArrayDeque<>();
    private final List<int[]> seen = new ArrayList<>();
    private final List<int[]> book = new ArrayList<>();
    private long seed;
    private final Doings[] images = new Doings[2];
    private final long[] imageSeeds = new long[2];

    int feed(int letter) {
        if (letter < 0 || letter > 255) return OUTSIDE;
        if (text.length() == 240) return FULL;
        text.append((char) letter);
        return text.length();
    }

    int town() {
        Told told;
        try {
            told = read(text.toString());
            faultAt = NONE;
        } catch (Fault f) {
            faultAt = f.at;
            return -10 - f.number;
        } finally {
            text.setLength(0);
        }
        places = told.places;
        bridges = told.bridges;
        now = told.doings;
        for (int k = 0; k < now.keepers.size() && k < bridges.size(); k++) now.keepers.get(k).bridge = k;
        past.clear();
        seen.clear();
        book.clear();
        Arrays.fill(images, null);
        return bridges.size();
    }

    /** The text in pieces (a run of figures is one), then clause by clause against the bounds of its numbers. */
    private static Told read(String text) {
        List<String> pieces = new ArrayList<>();
        List<Integer> starts = new ArrayList<>();
        for (int i = 0; i < text.length();) {
            int end = i + 1;
            while (isFigure(text.charAt(i)) && end < text.length() && isFigure(text.charAt(end))) end++;
            if (text.charAt(i) != ' ') {
                pieces.add(text.substring(i, end));
                starts.add(i);
            }
            i = end;
        }
        pieces.add("");
        starts.add(text.length());
        Told told = new Told();
        int p = 0;
        while (!pieces.get(p).isEmpty()) {
            String word = pieces.get(p);
            boolean isWord = "nbkj".contains(word);
            if (!isWord || (told.places == 0 && !word.equals("n"))) throw new Fault(1, starts.get(p));
            int[] had = {told.places > 0 ? 1 : 0, told.bridges.size(), told.doings.keepers.size(), told.doings.jumpers.size()};
            if (had["nbkj".indexOf(word)] == new int[] {1, 9, 9, 6}["nbkj".indexOf(word)]) throw new Fault(3, starts.get(p));
            int place = told.places - 1;
            int[][] bounds = switch (word) {
                case "n" -> new int[][] {{2, 8}};
                case "b" -> new int[][] {{0, place}, {0, place}, {2, 40}, {0, 99}};
                case "k" -> new int[][] {{0, 3}, {1, 40}};
                default -> new int[][] {{0, 3}, {0, place}};
            };
            int[] v = new int[bounds.length];
            for (int i = 0; i < v.length; i++) {
                String piece = pieces.get(p + 1 + i);
                int at = starts.get(p + 1 + i);
                if (piece.isEmpty() || !isFigure(piece.charAt(0))) throw new Fault(1, at);
                if (piece.length() > 3) throw new Fault(2, at);
                v[i] = Integer.parseInt(piece);
                if (v[i] < bounds[i][0] || v[i] > bounds[i][1]) throw new Fault(2, at);
                if (word.equals("b") && i == 1) {
                    boolean joined = v[0] == v[1];
                    for (Bridge b : told.bridges) joined |= Set.of(b.a, b.b).equals(new HashSet<>(List.of(v[0], v[1])));
                    if (joined) throw new Fault(4, at);
                }
            }
            p += 1 + v.length;
            if (!pieces.get(p).equals(";")) throw new Fault(1, starts.get(p));
            p++;
            add(told, word, v);
        }
        return told;
    }

    private static boolean isFigure(char c) {
        return "0123456789".indexOf(c) >= 0;
    }

    private static void add(Told told, String word, int[] v) {
        switch (word) {
            case "n" -> told.places = v[0];
            case "b" -> {
                Bridge b = new Bridge();
                b.a = v[0];
                b.b = v[1];
                b.air = v[2];
                b.q = v[3];
                told.bridges.add(b);
            }
            case "k" -> {
                Keeper k = new Keeper();
                k.kind = v[0];
                k.r = v[1];
                told.doings.keepers.add(k);
            }
            default -> {
                Jumper j = new Jumper();
                j.kind = v[0];
                j.place = v[1];
                told.doings.jumpers.add(j);
            }
        }
    }

    int fault() {
        return faultAt;
    }

    private boolean noPlace(int x) {
        return x < 0 || x >= places;
    }

    private boolean noBridge(int b) {
        return b < 0 || b >= bridges.size();
    }

    private boolean noKeeper(int k) {
        return k < 0 || k >= now.keepers.size();
    }

    private boolean noJumper(int j) {
        return j < 0 || j >= now.jumpers.size();
    }

    private int time(Keeper k, int tired) {
        int[] more = {0, now.hours % 2 * 2, tired, tired / 3};
        return k.r + more[k.kind];
    }

    private int flightOf(Jumper j, Bridge b) {
        int[] f = {b.air, b.air - j.doubt, b.air - j.doubt / 2 - now.hours % 2, b.air / 2};
        return Math.max(0, f[j.kind]);
    }

    private Keeper at(int b) {
        return now.keepers.stream().filter(k -> k.bridge == b).findFirst().orElse(null);
    }

    private boolean dares(Jumper j, int b) {
        Keeper k = at(b);
        return k != null && time(k, k.tired) <= flightOf(j, bridges.get(b));
    }

    private int dares(Jumper j) {
        int set = 0;
        for (int b = 0; b < bridges.size(); b++) if (dares(j, b)) set += 1 << b;
        return set;
    }

    int told(int what) {
        int all = (1 << bridges.size()) - 1;
        int answer = 0;
        switch (what) {
            case 0: return places;
            case 1: return bridges.size();
            case 2: return now.keepers.size();
            case 3: return now.jumpers.size();
            case 4: return text.length();
            case 5: return now.hours;
            case 6:
                for (int b = 0; b < bridges.size(); b++) answer += at(b) == null ? 0 : 1;
                return answer;
            case 7:
                for (int b = 0; b < bridges.size(); b++) {
                    boolean bottle = false;
                    for (int x = 0; x < places; x++) {
                        for (int y = 0; y < places; y++) bottle |= joined(x, y, all) && !joined(x, y, all - (1 << b));
                    }
                    answer += bottle ? 1 << b : 0;
                }
                return answer;
            case 8:
                for (int x = 0; x < places; x++) {
                    for (int y = 0; y < places; y++) {
                        List<List<Integer>> found = simpleWays(x, y, all);
                        answer = Math.max(answer, found.stream().mapToInt(List::size).min().orElse(0));
                    }
                }
                return answer;
            case 9:
                for (int j = 0; j < now.jumpers.size(); j++) answer += now.jumpers.get(j).over > now.jumpers.get(j).dried ? 1 << j : 0;
                return answer;
            case 10:
                int least = now.jumpers.stream().mapToInt(j -> j.dried).min().orElse(0);
                for (int j = 0; j < now.jumpers.size(); j++) if (now.jumpers.get(j).dried == least) return j;
                return NONE;
            case 11: return now.roll.size();
            case 12: return seen.size();
            case 13: return book.size();
            case 14: return past.size();
            default: return OUTSIDE;
        }
    }

    int bridge(int b, int what) {
        if (noBridge(b)) return UNKNOWN;
        if (what < 0 || what > 5) return OUTSIDE;
        Bridge x = bridges.get(b);
        Keeper k = at(b);
        return new int[] {x.a, x.b, x.air, x.q, now.keepers.indexOf(k), k == null ? NONE : time(k, k.tired)}[what];
    }

    int keeper(int k, int what) {
        if (noKeeper(k)) return UNKNOWN;
        if (what < 0 || what > 4) return OUTSIDE;
        Keeper x = now.keepers.get(k);
        return new int[] {x.kind, x.r, x.bridge, x.tired, time(x, x.tired)}[what];
    }

    int jumper(int j, int what) {
        if (noJumper(j)) return UNKNOWN;
        if (what < 0 || what > 5) return OUTSIDE;
        Jumper x = now.jumpers.get(j);
        return new int[] {x.kind, x.place, x.doubt, x.over, x.dried, dares(x)}[what];
    }

    int flight(int j, int b) {
        return noJumper(j) || noBridge(b) ? UNKNOWN : flightOf(now.jumpers.get(j), bridges.get(b));
    }

    int roll(int i, int what) {
        if (what < 0 || what > 3) return OUTSIDE;
        return i < 0 || i >= now.roll.size() ? NONE : now.roll.get(now.roll.size() - 1 - i)[what];
    }

    private void remember() {
        past.addLast(now.copy());
        if (past.size() > 16) past.removeFirst();
    }

    private boolean isAt(Jumper j, Bridge b) {
        return j.place == b.a || j.place == b.b;
    }

    private int jump(int j, int b, boolean jammed) {
        Jumper x = now.jumpers.get(j);
        int over = !jammed && dares(x, b) ? 1 : 0;
        if (over == 1) {
            x.place = bridges.get(b).a + bridges.get(b).b - x.place;
            x.doubt = Math.max(0, x.doubt - 1);
            x.over++;
        } else {
            x.doubt = Math.min(30, x.doubt + 2);
            x.dried++;
        }
        Keeper k = at(b);
        if (k != null) k.tired = Math.min(99, k.tired + 1);
        now.roll.add(new int[] {now.hours, j, b, over});
        if (now.roll.size() > 20) now.roll.remove(0);
        return over;
    }

    int leap(int j, int b) {
        if (noJumper(j) || noBridge(b)) return UNKNOWN;
        if (!isAt(now.jumpers.get(j), bridges.get(b))) return NOT;
        remember();
        return jump(j, b, false);
    }

    int post(int k, int b) {
        if (noKeeper(k) || noBridge(b)) return UNKNOWN;
        if (at(b) != null) return NOT;
        remember();
        int was = now.keepers.get(k).bridge;
        now.keepers.get(k).bridge = b;
        return was;
    }

    int rest(int k) {
        if (noKeeper(k)) return UNKNOWN;
        int was = now.keepers.get(k).bridge;
        if (was == NONE) return NOT;
        remember();
        now.keepers.get(k).bridge = NONE;
        return was;
    }

    int train(int k) {
        if (noKeeper(k)) return UNKNOWN;
        if (now.keepers.get(k).r == 1) return NOT;
        remember();
        return --now.keepers.get(k).r;
    }

    int talk(int j, int doubt) {
        if (noJumper(j)) return UNKNOWN;
        if (doubt < 0 || doubt > 30) return OUTSIDE;
        remember();
        int was = now.jumpers.get(j).doubt;
        now.jumpers.get(j).doubt = doubt;
        return was;
    }

    private int draw(int n) {
        seed = (seed * 1103515245L + 12345L) % (1L << 31);
        return (int) (seed / 65536 % n);
    }

    int hours(int n, boolean byDraws) {
        if (n < 1 || n > 60) return OUTSIDE;
        if (places == 0) return NOT;
        if (now.hours > 9000) return FULL;
        remember();
        for (int i = 0; i < n; i++) {
            if (byDraws && !now.jumpers.isEmpty() && !bridges.isEmpty()) {
                int j = draw(now.jumpers.size());
                int b = draw(bridges.size());
                int luck = draw(100);
                if (isAt(now.jumpers.get(j), bridges.get(b))) jump(j, b, luck < bridges.get(b).q);
            }
            for (Keeper k : now.keepers) k.tired = Math.max(0, k.tired - (k.bridge == NONE ? 3 : 1));
            for (Jumper j : now.jumpers) j.doubt = j.doubt / 2 * 2;
            now.hours++;
        }
        return now.hours;
    }

    int undo() {
        if (past.isEmpty()) return NOT;
        now = past.removeLast();
        return past.size();
    }

    /** All ways without a place twice, the lesser first, leap by leap. */
    private List<List<Integer>> simpleWays(int x, int y, int set) {
        List<List<Integer>> found = new ArrayList<>();
        extend(x, y, set, new HashSet<>(Set.of(x)), new ArrayList<>(), found);
        return found;
    }

    private void extend(int x, int y, int set, Set<Integer> been, List<Integer> way, List<List<Integer>> found) {
        if (x == y) {
            found.add(new ArrayList<>(way));
            return;
        }
        for (int b = 0; b < bridges.size(); b++) {
            Bridge bridge = bridges.get(b);
            if ((set & 1 << b) == 0 || (bridge.a != x && bridge.b != x)) continue;
            int next = bridge.a + bridge.b - x;
            if (!been.add(next)) continue;
            way.add(b);
            extend(next, y, set, been, way, found);
            way.remove(way.size() - 1);
            been.remove(next);
        }
    }

    private boolean joined(int x, int y, int set) {
        int[] group = new int[places];
        for (int i = 0; i < places; i++) group[i] = i;
        for (int b = 0; b < bridges.size(); b++) {
            int from = group[bridges.get(b).a];
            int to = group[bridges.get(b).b];
            for (int i = 0; i < places && (set & 1 << b) != 0; i++) if (group[i] == from) group[i] = to;
        }
        return group[x] == group[y];
    }

    private long odds(List<Integer> way) {
        long odds = 1000000000;
        for (int b : way) odds = odds * (100 - bridges.get(b).q) / 100;
        return odds;
    }

    int way(int j, int x, int what) {
        if (noJumper(j) || noPlace(x)) return UNKNOWN;
        if (what < 0 || what > 1) return OUTSIDE;
        Jumper u = now.jumpers.get(j);
        List<List<Integer>> all = simpleWays(u.place, x, dares(u));
        if (all.isEmpty()) return NONE;
        all.sort(Comparator.comparingInt(List::size));
        List<Integer> way = all.get(0);
        return what == 0 ? way.size() : way.isEmpty() ? NONE : way.get(0);
    }

    int safest(int j, int x, int what) {
        if (noJumper(j) || noPlace(x)) return UNKNOWN;
        if (what < 0 || what > 1) return OUTSIDE;
        Jumper u = now.jumpers.get(j);
        List<List<Integer>> all = simpleWays(u.place, x, dares(u));
        if (all.isEmpty()) return NONE;
        all.sort(Comparator.comparingLong(w -> -odds(w)));
        List<Integer> way = all.get(0);
        return what == 0 ? (int) odds(way) : way.isEmpty() ? NONE : way.get(0);
    }

    int posts(int j, int b) {
        if (noJumper(j) || (b != NONE && noBridge(b))) return UNKNOWN;
        List<Integer> best = bestPosts(now.jumpers.get(j), 0, 0, new HashMap<>());
        if (b != NONE) return best.get(b);
        return (int) best.stream().filter(k -> k != NONE).count();
    }

    /** The best keepers for the bridges from b on, if those of a set are taken: each is tried, none last. */
    private List<Integer> bestPosts(Jumper j, int b, int taken, Map<Integer, List<Integer>> known) {
        if (b == bridges.size()) return List.of();
        int key = b << 9 | taken;
        if (known.containsKey(key)) return known.get(key);
        List<Integer> best = null;
        long most = -1;
        for (int k = 0; k <= now.keepers.size(); k++) {
            boolean none = k == now.keepers.size();
            if (!none && (taken & 1 << k) != 0) continue;
            if (!none && time(now.keepers.get(k), now.keepers.get(k).tired) > flightOf(j, bridges.get(b))) continue;
            List<Integer> rest = bestPosts(j, b + 1, none ? taken : taken | 1 << k, known);
            long count = rest.stream().filter(r -> r != NONE).count() + (none ? 0 : 1);
            if (count > most) {
                most = count;
                best = new ArrayList<>(List.of(none ? NONE : k));
                best.addAll(rest);
            }
        }
        known.put(key, best);
        return best;
    }

    int tires(int j, int b) {
        if (noJumper(j) || noBridge(b)) return UNKNOWN;
        Keeper k = at(b);
        if (k == null) return NOT;
        int flight = flightOf(now.jumpers.get(j), bridges.get(b));
        for (int more = 0; k.tired + more <= 99; more++) if (time(k, k.tired + more) > flight) return more;
        return NONE;
    }

    int parted(int x, int y) {
        if (noPlace(x) || noPlace(y) || x == y) return UNKNOWN;
        int all = (1 << bridges.size()) - 1;
        int best = all;
        for (int set = all; set >= 0; set--) {
            if (!joined(x, y, all - set) && Integer.bitCount(set) <= Integer.bitCount(best)) best = set;
        }
        return best;
    }

    int pays(int v, int q) {
        if (v < 1 || v > 99 || q < 0 || q > 100) return OUTSIDE;
        int best = 0;
        for (int n = 30; n >= 0; n--) if ((long) n * v * exact(n, q) >= (long) best * v * exact(best, q)) best = n;
        return best;
    }

    int exact(int n, int q) {
        if (n < 0 || n > 60 || q < 0 || q > 100) return OUTSIDE;
        return n == 0 ? 1000000000 : (int) ((long) exact(n - 1, q) * q / 100);
    }

    int see(int f, boolean over) {
        if (f < 0 || f > 40) return OUTSIDE;
        if (seen.size() == 6) return FULL;
        seen.add(new int[] {f, over ? 1 : 0});
        return seen.size();
    }

    private List<Integer> fitting() {
        List<Integer> fit = new ArrayList<>();
        for (int r = 1; r <= 40; r++) {
            boolean fits = true;
            for (int[] s : seen) fits &= (r <= s[0]) == (s[1] == 1);
            if (fits) fit.add(r);
        }
        return fit;
    }

    int quick(int what) {
        if (what < 0 || what > 2) return OUTSIDE;
        List<Integer> fit = fitting();
        if (what == 0) return fit.size();
        return fit.isEmpty() ? NONE : fit.get(what == 1 ? 0 : fit.size() - 1);
    }

    int watch() {
        List<Integer> fit = fitting();
        int best = NONE;
        int bestPart = fit.size();
        for (int f = 0; f <= 40; f++) {
            int over = 0;
            for (int r : fit) over += r <= f ? 1 : 0;
            int part = Math.max(over, fit.size() - over);
            if (part < bestPart) {
                best = f;
                bestPart = part;
            }
        }
        return best;
    }

    int write(int j, int x) {
        if (noJumper(j) || noPlace(x)) return UNKNOWN;
        if (book.size() == 15) return FULL;
        book.add(new int[] {j, x});
        return book.size();
    }

    int tear() {
        int had = seen.size() + book.size();
        seen.clear();
        book.clear();
        return had;
    }

    int judge() {
        for (int i = 0; i < book.size(); i++) if (now.jumpers.get(book.get(i)[0]).place != book.get(i)[1]) return i;
        return NONE;
    }

    int seed(int v) {
        if (v < 0) return OUTSIDE;
        int was = (int) seed;
        seed = v;
        return was;
    }

    int keep(int i) {
        if (i != 0 && i != 1) return UNKNOWN;
        images[i] = now.copy();
        imageSeeds[i] = seed;
        past.clear();
        return 1;
    }

    int goBack(int i) {
        if (i != 0 && i != 1) return UNKNOWN;
        if (images[i] == null) return NOT;
        now = images[i].copy();
        seed = imageSeeds[i];
        past.clear();
        return 1;
    }
}
