import java.math.BigInteger;
import java.util.ArrayList;
import java.util.HashMap;
import java.util.HashSet;
import java.util.List;
import java.util.Map;
import java.util.Set;

/**
 * The document once more, written for plainness with the whole Java library and by other ways than the class:
 * every subset, every row, every chain is tried as its words say.
 */
final class PlainModel {
    private static final int NONE = -1, BAD = -2, NOT = -3, FULL = -4;
    private final StringBuilder[] texts = {new StringBuilder(), new StringBuilder()};
    private final String[] well = {"", ""};
    private final int[] train = {40, 0, 9, 10};
    private final List<int[]> heard = new ArrayList<>();
    private final Object[] sheets = new Object[4];
    private int finding = 0;

    private static final class One {
        int place, ear, sinks;
        boolean hears;
    }

    // ---- reading the texts

    private List<One> singers() {
        List<One> all = new ArrayList<>();
        if (well[0].isEmpty()) return all;
        for (String part : well[0].split(";")) {
            One one = new One();
            one.place = part.charAt(0) - '0';
            one.ear = part.charAt(1) - '0';
            one.sinks = part.charAt(2) - '0';
            one.hears = part.charAt(3) == 'h';
            all.add(one);
        }
        return all;
    }

    private String song() {
        return well[1];
    }

    /** Once for each change, as looking for a pattern is dear. */
    private int changed(int text) {
        String pattern = text == 0 ? "([0-9]{3}[hn](;[0-9]{3}[hn]){0,7})?" : "[sre]*";
        String now = texts[text].toString();
        well[text] = now.matches(pattern) ? now : "";
        return now.length();
    }

    int fault(int text) {
        if (text != 0 && text != 1) return BAD;
        String s = texts[text].toString();
        if (s.isEmpty()) return NONE;
        if (text == 1) {
            for (int i = 0; i < s.length(); i++) if ("sre".indexOf(s.charAt(i)) < 0) return i;
            return NONE;
        }
        for (int i = 0; i < s.length(); i++) {
            String may = i % 5 < 3 ? "0123456789" : i % 5 == 3 ? "hn" : ";";
            if (may.indexOf(s.charAt(i)) < 0) return i;
        }
        return s.charAt(s.length() - 1) == 'h' || s.charAt(s.length() - 1) == 'n' ? NONE : s.length();
    }

    int type(int text, int b) {
        if (text < 0 || text > 1 || b < 0 || b > 255) return BAD;
        if (texts[text].length() == (text == 0 ? 39 : 24)) return FULL;
        texts[text].append((char) b);
        return changed(text);
    }

    int wipe(int text) {
        if (text < 0 || text > 1) return BAD;
        int had = texts[text].length();
        texts[text].setLength(0);
        changed(text);
        return had;
    }

    int undo(int text) {
        if (text < 0 || text > 1) return BAD;
        if (texts[text].length() == 0) return NOT;
        texts[text].setLength(texts[text].length() - 1);
        return changed(text);
    }

    int singer(int singer, int what) {
        List<One> all = singers();
        if (singer < 0 || singer >= all.size() || what < 0 || what > 3) return BAD;
        One one = all.get(singer);
        return new int[] {one.place, one.ear, one.sinks, one.hears ? 1 : 0}[what];
    }

    int bar(int bar) {
        if (bar < 0 || bar > 23) return BAD;
        return bar < song().length() ? "sre".indexOf(song().charAt(bar)) : NONE;
    }

    int set(int what, int v) {
        if (what < 0 || what > 3 || v < 0 || v > new int[] {99, 9, 18, 99}[what]) return BAD;
        int was = train[what];
        train[what] = v;
        return was;
    }

    // ---- notes: Integer, null for SILENT

    private static int blow(int place, int speed, int early, int wind) {
        return 1000 + speed - (int) Math.floor(speed * (place + early) / 4.0) - 9 + wind;
    }

    private static int neighbour(List<One> all, int me) {
        int best = NONE;
        for (int d = 0; d <= 9 && best == NONE; d++) {
            for (int i = 0; i < all.size() && best == NONE; i++) {
                if (i != me && Math.abs(all.get(i).place - all.get(me).place) == d) best = i;
            }
        }
        return best;
    }

    private static Integer first(List<One> all, int me, int[] by, Set<Integer> seen) {
        One one = all.get(me);
        if (one.hears) {
            int w = blow(one.place, by[0], by[1], by[2]);
            return one.place % 2 == 0 ? w + one.ear : w - one.ear;
        }
        int next = neighbour(all, me);
        if (next == NONE || !seen.add(me)) return null;
        Integer its = first(all, next, by, seen);
        return its == null ? null : its + one.ear / 2;
    }

    private static int chain(List<One> all, int me, int depth) {
        if (all.get(me).hears) return depth;
        int next = neighbour(all, me);
        return next == NONE || depth > 20 ? NONE : chain(all, next, depth + 1);
    }

    private Integer noteIn(List<One> all, int me, int bar, int[] by) {
        Integer now = first(all, me, by, new HashSet<>());
        if (now == null) return null;
        int start = now;
        int has = now;
        for (int b = 0; b <= bar; b++) {
            if (song().charAt(b) == 'e') has = start;
            if (b > 0 && song().charAt(b - 1) == 'r' && song().charAt(b) != 'e') has -= all.get(me).sinks;
        }
        return has;
    }

    private int spread(List<One> all, int bar, int[] by, int without) {
        List<Integer> notes = new ArrayList<>();
        for (int i = 0; i < all.size(); i++) {
            Integer n = noteIn(all, i, bar, by);
            if (n != null && (without >> i & 1) == 0) notes.add(n);
        }
        if (notes.size() < 2) return 0;
        notes.sort(null);
        return notes.get(notes.size() - 1) - notes.get(0);
    }

    private boolean closing(int bar, int[] by) {
        return song().charAt(bar) != 'r' && spread(singers(), bar, by, 0) <= by[3];
    }

    private int[] with(int what, int v) {
        int[] by = train.clone();
        by[what] = v;
        return by;
    }

    private boolean noBar(int bar) {
        return bar < 0 || bar >= song().length();
    }

    int whistle(int place) {
        return place < 0 || place > 9 ? -10002 : blow(place, train[0], train[1], train[2]);
    }

    int ear(int singer, int what) {
        List<One> all = singers();
        if (singer < 0 || singer >= all.size() || what < 0 || what > 1) return BAD;
        return what == 0 ? neighbour(all, singer) : chain(all, singer, 0);
    }

    int note(int singer, int bar) {
        List<One> all = singers();
        if (singer < 0 || singer >= all.size() || noBar(bar)) return -10002;
        Integer n = noteIn(all, singer, bar, train);
        return n == null ? -10000 : n;
    }

    int away(int singer, int bar) {
        int n = note(singer, bar);
        return n <= -10000 ? n : n - 1000;
    }

    int chord(int bar, int what) {
        if (noBar(bar) || what < 0 || what > 2) return BAD;
        if (what == 0) return spread(singers(), bar, train, 0);
        if (what == 1) return closing(bar, train) ? 1 : 0;
        int best = NONE;
        for (int i = singers().size() - 1; i >= 0; i--) {
            if (note(i, bar) != -10000 && (best == NONE || note(i, bar) <= note(best, bar))) best = i;
        }
        return best;
    }

    int open(int what) {
        if (what < 0 || what > 1) return BAD;
        List<Integer> open = new ArrayList<>();
        for (int b = 0; b < song().length(); b++) {
            if (song().charAt(b) != 'r' && !closing(b, train)) open.add(b);
        }
        return what == 1 ? open.size() : open.isEmpty() ? NONE : open.get(0);
    }

    // ---- plans

    private void rows(List<List<Integer>> all, List<Integer> row, int n) {
        if (row.size() == n) {
            all.add(new ArrayList<>(row));
            return;
        }
        for (int i = 0; i < n; i++) {
            if (!row.contains(i)) {
                row.add(i);
                rows(all, row, n);
                row.remove(row.size() - 1);
            }
        }
    }

    int stand(int bar, int i) {
        if (noBar(bar) || i < -1 || i > 4) return BAD;
        List<One> told = singers();
        int n = Math.min(5, told.size());
        List<List<Integer>> all = new ArrayList<>();
        rows(all, new ArrayList<>(), n);
        int least = Integer.MAX_VALUE;
        List<Integer> best = null;
        for (List<Integer> row : all) {
            List<One> now = singers();
            for (int k = 0; k < n; k++) now.get(k).place = told.get(row.get(k)).place;
            int much = spread(now, bar, train, 0);
            if (much < least) {
                least = much;
                best = row;
            }
        }
        return i == NONE ? least : i < n ? best.get(i) : NONE;
    }

    int hush(int bar, int what) {
        if (noBar(bar) || what < 0 || what > 1) return BAD;
        List<One> all = singers();
        int best = NONE;
        for (int bits = (1 << all.size()) - 1; bits >= 0; bits--) {
            if (spread(all, bar, train, bits) <= train[3]
                && (best == NONE || Integer.bitCount(bits) <= Integer.bitCount(best))) best = bits;
        }
        return what == 0 ? Integer.bitCount(best) : best;
    }

    int drive(int bar, int what) {
        if (noBar(bar) || what < 0 || what > 1) return BAD;
        int best = 99;
        for (int v = 98; v >= 0; v--) {
            if (spread(singers(), bar, with(0, v), 0) <= spread(singers(), bar, with(0, best), 0)) best = v;
        }
        return what == 0 ? best : spread(singers(), bar, with(0, best), 0);
    }

    // ---- heard, cows, trains

    int heard(int bar, int singer, int note) {
        if (bar < 0 || bar > 23 || singer < 0 || singer > 7 || note < 0 || note > 2000) return BAD;
        if (heard.size() == 8) return FULL;
        heard.add(new int[] {bar, singer, note});
        return heard.size();
    }

    int forget() {
        int had = heard.size();
        heard.clear();
        return had;
    }

    int read(int s) {
        if (s < 0 || s > 3) return BAD;
        if (sheets[s] == null) return found(1);
        int k = 0;
        while (3 * k + 3 <= size(s) && heard(item(s, 3 * k), item(s, 3 * k + 1), item(s, 3 * k + 2)) > 0) k++;
        return k;
    }

    private boolean comesOut(int[] by) {
        List<One> all = singers();
        for (int[] h : heard) {
            if (h[0] >= song().length() || h[1] >= all.size()) return false;
            Integer n = noteIn(all, h[1], h[0], by);
            if (n == null || n != h[2]) return false;
        }
        return true;
    }

    private List<Integer> fitting() {
        List<Integer> all = new ArrayList<>();
        for (int v = 0; v < 100; v++) if (comesOut(with(0, v))) all.add(v);
        return all;
    }

    int speeds(int i) {
        if (i < -1 || i > 99) return BAD;
        List<Integer> all = fitting();
        return i == NONE ? all.size() : i < all.size() ? all.get(i) : NONE;
    }

    int cows() {
        int bits = 0;
        for (int v = 0; v < 10; v++) if (comesOut(with(1, v))) bits += 1 << v;
        return bits;
    }

    int ask() {
        List<One> all = singers();
        List<Integer> fit = fitting();
        int best = NONE;
        int least = 0;
        for (int i = 0; i < all.size(); i++) {
            Map<Integer, Integer> groups = new HashMap<>();
            int most = 0;
            for (int v : fit) {
                most = Math.max(most, groups.merge(first(all, i, with(0, v), new HashSet<>()), 1, Integer::sum));
            }
            if (best == NONE || most < least) {
                best = i;
                least = most;
            }
        }
        return best;
    }

    long herd(int n, int c, int bar, int what) {
        if (n < 0 || n > 9 || c < 0 || c > 16 || noBar(bar) || song().charAt(bar) == 'r' || what < 0 || what > 1) {
            return Long.MIN_VALUE + 2;
        }
        boolean[] closesBy = new boolean[n + 1];
        for (int early = 0; early <= n; early++) closesBy[early] = closing(bar, with(1, early));
        BigInteger above = BigInteger.ZERO;
        for (int there = 0; there < 1 << n; there++) {
            BigInteger way = BigInteger.ONE;
            for (int cow = 0; cow < n; cow++) {
                way = way.multiply(BigInteger.valueOf((there >> cow & 1) == 1 ? c : 16 - c));
            }
            if (closesBy[Integer.bitCount(there)]) above = above.add(way);
        }
        BigInteger below = BigInteger.valueOf(16).pow(n);
        BigInteger by = above.gcd(below);
        return (what == 0 ? above : below).divide(by).longValueExact();
    }

    int times(int seed, int n, int bar) {
        if (n < 1 || n > 99 || noBar(bar) || song().charAt(bar) == 'r') return BAD;
        int sum = 0;
        int[] s = {seed};
        for (int i = 0; i < n; i++) {
            int[] by = train.clone();
            by[0] = lot(s, 100);
            by[2] = lot(s, 19);
            if (closing(bar, by)) sum++;
        }
        return sum;
    }

    private static int lot(int[] seed, int m) {
        long wide = BigInteger.valueOf(1103515245L).multiply(BigInteger.valueOf(seed[0]))
            .add(BigInteger.valueOf(12345)).longValue() & 0xFFFFFFFFL;
        seed[0] = (int) wide;
        return (int) (wide / 65536 % m);
    }

    // ---- sheets: real rows

    private int found(int number) {
        finding = number;
        return -10 - number;
    }

    private int form(int s) {
        return sheets[s] instanceof byte[] ? 0 : sheets[s] instanceof short[] ? 1 : 2;
    }

    private int size(int s) {
        return java.lang.reflect.Array.getLength(sheets[s]);
    }

    private int item(int s, int i) {
        return java.lang.reflect.Array.getInt(sheets[s], i);
    }

    private void put(int s, int i, int v) {
        if (sheets[s] instanceof byte[] row) row[i] = (byte) v;
        if (sheets[s] instanceof short[] row) row[i] = (short) v;
        if (sheets[s] instanceof int[] row) row[i] = v;
    }

    int sheet(int s, int form, int n) {
        if (s < 0 || s > 3 || form < 0 || form > 2 || n > 60) return BAD;
        if (n < 0) return found(5);
        sheets[s] = form == 0 ? new byte[n] : form == 1 ? new short[n] : new int[n];
        return n;
    }

    int lose(int s) {
        if (s < 0 || s > 3) return BAD;
        if (sheets[s] == null) return found(1);
        int had = size(s);
        sheets[s] = null;
        return had;
    }

    private int refused(int s, int form, int i) {
        if (s < 0 || s > 3 || form < 0 || form > 2) return BAD;
        if (sheets[s] == null) return found(1);
        if (form(s) != form) return found(3);
        return i < 0 || i >= size(s) ? found(2) : 0;
    }

    int lay(int s, int form, int i, int v) {
        int no = refused(s, form, i);
        if (no != 0) return no;
        put(s, i, v);
        return 1;
    }

    int get(int s, int form, int i) {
        return refused(s, form, i) != 0 ? Integer.MIN_VALUE : item(s, i);
    }

    int copy(int s, int i, int t, int j, int n) {
        if (s < 0 || s > 3 || t < 0 || t > 3) return BAD;
        if (sheets[s] == null || sheets[t] == null) return found(1);
        if (form(s) != form(t)) return found(4);
        if (i < 0 || j < 0 || n < 0 || (long) i + n > size(s) || (long) j + n > size(t)) return found(2);
        int[] items = new int[n];
        for (int k = 0; k < n; k++) items[k] = item(s, i + k);
        for (int k = 0; k < n; k++) put(t, j + k, items[k]);
        return 1;
    }

    int write(int bar, int s) {
        if (noBar(bar) || s < 0 || s > 3) return BAD;
        if (sheets[s] == null) return found(1);
        int k = 0;
        while (k < size(s) && k < singers().size()) {
            put(s, k, note(k, bar));
            k++;
        }
        return k;
    }

    int count(int what) {
        if (what < 0 || what > 8) return BAD;
        List<One> all = singers();
        int silent = 0;
        for (int i = 0; i < all.size(); i++) if (chain(all, i, 0) == NONE) silent++;
        int rests = song().replaceAll("[se]", "").length();
        return new int[] {all.size(), song().length(), texts[0].length(), texts[1].length(), silent, rests, train[0],
            heard.size(), finding}[what];
    }

    long digest() {
        List<Long> v = new ArrayList<>();
        for (int i = 0; i < 8; i++) v.add((long) count(i));
        for (int i = 0; i < 2; i++) v.add((long) fault(i));
        for (int i = 0; i < count(0); i++) {
            for (int k = 0; k < 4; k++) v.add((long) singer(i, k));
            for (int k = 0; k < 2; k++) v.add((long) ear(i, k));
        }
        for (int b = 0; b < count(1); b++) {
            v.add((long) bar(b));
            for (int i = 0; i < count(0); i++) v.add((long) note(i, b));
        }
        for (int b = 0; b < count(1); b++) for (int k = 0; k < 3; k++) v.add((long) chord(b, k));
        long[] last = {whistle(0), whistle(9), open(0), open(1), stand(0, -1), stand(0, 0), hush(0, 0), hush(0, 1),
            drive(0, 0), drive(0, 1), herd(3, 5, 0, 0), herd(3, 5, 0, 1), times(7, 20, 0), speeds(-1), speeds(0),
            cows(), ask()};
        for (long x : last) v.add(x);
        long h = 17;
        for (long x : v) h = 31 * h + x;
        return h;
    }
}
