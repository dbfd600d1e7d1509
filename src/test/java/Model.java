import java.math.BigInteger;
import java.util.ArrayList;
import java.util.HashMap;
import java.util.List;
import java.util.Map;
import java.util.TreeMap;
import java.util.regex.Pattern;

/** The document written down a second time, slowly and by other means, to compare the class with. */
final class Model {
    private static final int NONE = -6, UNKNOWN = -1, OUTSIDE = -2, STATE = -3, FULL = -4, NO = -5;
    private static final String ACT = "(?:[A-H](?:[a-x]|-|>[0-9])|\\*[0-9]|\\.)";
    private static final Pattern WHOLE = Pattern.compile(ACT + "*");
    private static final Pattern BEGUN = Pattern.compile(ACT + "*(?:[A-H]>?|\\*)?");
    private static final int FAR = 1000;

    /** One who is there. */
    private static final class Voice {
        int low, high, lungs, breath, place;
        Integer note;

        Voice copy() {
            Voice v = new Voice();
            v.low = low;
            v.high = high;
            v.lungs = lungs;
            v.breath = breath;
            v.place = place;
            v.note = note;
            return v;
        }
    }

    private boolean[][] joined = new boolean[10][10];
    private int[] echo = {0, 1, 2, 3, 4, 5, 6, 7, 8, 9};
    private boolean[] gas = new boolean[10];
    private boolean[] closed = new boolean[10];
    private int[] coal = new int[10];
    private TreeMap<Integer, Voice> voices = new TreeMap<>();
    private int beat;
    private List<int[]> sights = new ArrayList<>();
    private final StringBuilder pad = new StringBuilder();
    private final Model[] images = new Model[2];

    private void take(Model m) {
        joined = new boolean[10][];
        for (int i = 0; i < 10; i++) {
            joined[i] = m.joined[i].clone();
        }
        echo = m.echo.clone();
        gas = m.gas.clone();
        closed = m.closed.clone();
        coal = m.coal.clone();
        voices = new TreeMap<>();
        m.voices.forEach((k, v) -> voices.put(k, v.copy()));
        beat = m.beat;
        sights = new ArrayList<>(m.sights);
    }

    private Model copy() {
        Model m = new Model();
        m.take(this);
        return m;
    }

    private static boolean in(int x, int low, int high) {
        return low <= x && x <= high;
    }

    int passage(int a, int b, boolean is) {
        if (!in(a, 0, 9) || !in(b, 0, 9) || a == b) {
            return UNKNOWN;
        }
        joined[a][b] = is;
        joined[b][a] = is;
        int count = 0;
        for (int i = 0; i < 10; i++) {
            for (int j = 0; j < i; j++) {
                count += joined[i][j] ? 1 : 0;
            }
        }
        return count;
    }

    int gallery(int gallery, int to, boolean damp) {
        if (!in(gallery, 0, 9) || !in(to, 0, 9)) {
            return UNKNOWN;
        }
        int was = echo[gallery];
        echo[gallery] = to;
        gas[gallery] = damp;
        return was;
    }

    int voice(int voice, int low, int high, int lungs, int gallery) {
        if (!in(voice, 0, 7) || !in(gallery, 0, 9)) {
            return UNKNOWN;
        }
        if (!in(low, 0, 23) || !in(high, 0, 23) || low > high || !in(lungs, 0, 99)) {
            return OUTSIDE;
        }
        Voice v = new Voice();
        v.low = low;
        v.high = high;
        v.lungs = lungs;
        v.breath = lungs;
        v.place = gallery;
        voices.put(voice, v);
        return voices.size();
    }

    int breath(int voice, int value) {
        Voice v = voices.get(voice);
        if (v == null) {
            return UNKNOWN;
        }
        if (!in(value, 0, v.lungs)) {
            return OUTSIDE;
        }
        int was = v.breath;
        v.breath = value;
        v.note = value == 0 ? null : v.note;
        return was;
    }

    int leave(int voice) {
        return voices.remove(voice) == null ? UNKNOWN : voices.size();
    }

    int say(int sign) {
        if (!in(sign, 33, 126)) {
            return OUTSIDE;
        }
        if (pad.length() == 60) {
            return FULL;
        }
        return pad.append((char) sign).length();
    }

    int wipe() {
        int were = pad.length();
        pad.setLength(0);
        return were;
    }

    int fault() {
        for (int n = 1; n <= pad.length(); n++) {
            if (!BEGUN.matcher(pad.substring(0, n)).matches()) {
                return n - 1;
            }
        }
        return WHOLE.matcher(pad).matches() ? NONE : pad.length();
    }

    private List<String> acts() {
        List<String> list = new ArrayList<>();
        var m = Pattern.compile(ACT).matcher(pad);
        while (m.find()) {
            list.add(m.group());
        }
        return list;
    }

    private int whyNot(String act) {
        if (act.equals(".")) {
            return beat == 999 ? 7 : 0;
        }
        if (act.startsWith("*")) {
            return 0;
        }
        Voice v = voices.get(act.charAt(0) - 'A');
        if (v == null) {
            return 1;
        }
        if (act.charAt(1) == '>') {
            int to = act.charAt(2) - '0';
            return !joined[v.place][to] ? 5 : closed[v.place] || closed[to] ? 6 : 0;
        }
        if (act.charAt(1) == '-') {
            return v.note == null ? 3 : 0;
        }
        int note = act.charAt(1) - 'a';
        if (!in(note, v.low, v.high)) {
            return 2;
        }
        if (v.note != null && v.note == note) {
            return 3;
        }
        return v.breath == 0 ? 4 : 0;
    }

    private void perform(String act) {
        if (act.equals(".")) {
            performBeat();
        } else if (act.startsWith("*")) {
            closed[act.charAt(1) - '0'] ^= true;
        } else {
            Voice v = voices.get(act.charAt(0) - 'A');
            if (act.charAt(1) == '>') {
                v.place = act.charAt(2) - '0';
            } else {
                v.note = act.charAt(1) == '-' ? null : Integer.valueOf(act.charAt(1) - 'a');
            }
        }
    }

    private void performBeat() {
        int[] lights = new int[10];
        for (int g = 0; g < 10; g++) {
            lights[g] = light(g);
        }
        for (Voice v : voices.values()) {
            if (v.note == null) {
                coal[v.place] += lights[v.place] == 0 ? 0 : lights[v.place] <= 8 ? 1 : 2;
                v.breath = v.breath < v.lungs ? v.breath + 1 : v.lungs;
            } else {
                v.breath--;
                v.note = v.breath == 0 ? null : v.note;
            }
        }
        beat++;
    }

    /** The first act that can not be, why, the first by which a lamp goes out, the gallery. */
    private int[] run(Model on) {
        int[] row = {NONE, NONE, NONE, NONE};
        List<String> list = acts();
        for (int i = 0; i < list.size(); i++) {
            int why = on.whyNot(list.get(i));
            if (why != 0) {
                row[0] = i;
                row[1] = why;
                return row;
            }
            int ahead = on.lamps();
            on.perform(list.get(i));
            int out = ahead & ~on.lamps();
            if (out != 0 && row[2] == NONE) {
                row[2] = i;
                row[3] = Integer.numberOfTrailingZeros(out);
            }
        }
        return row;
    }

    int judge(int what) {
        if (!in(what, 0, 1)) {
            return OUTSIDE;
        }
        return fault() != NONE ? NO : run(copy())[what];
    }

    private boolean can() {
        return fault() == NONE && run(copy())[0] == NONE;
    }

    int done() {
        if (!can()) {
            return NO;
        }
        run(this);
        int count = acts().size();
        pad.setLength(0);
        return count;
    }

    private Model behindAll() {
        Model m = copy();
        run(m);
        return m;
    }

    int behind(int voice, int what) {
        if (!voices.containsKey(voice)) {
            return UNKNOWN;
        }
        if (!in(what, 0, 2)) {
            return OUTSIDE;
        }
        if (!can()) {
            return NO;
        }
        Voice v = behindAll().voices.get(voice);
        return what == 0 ? v.note == null ? NONE : v.note : what == 1 ? v.breath : v.place;
    }

    int seam(int gallery, int what) {
        if (!in(gallery, 0, 9)) {
            return UNKNOWN;
        }
        if (!in(what, 0, 1)) {
            return OUTSIDE;
        }
        if (!can()) {
            return NO;
        }
        return what == 0 ? behindAll().light(gallery) : behindAll().coal[gallery];
    }

    int then(int what) {
        if (!in(what, 0, 4)) {
            return OUTSIDE;
        }
        if (!can()) {
            return NO;
        }
        Model m = copy();
        int[] row = run(m);
        return what == 0 ? m.lamps() : what == 1 ? m.beat : what == 2 ? m.allCoal() : row[what - 1];
    }

    private int allCoal() {
        int sum = 0;
        for (int c : coal) {
            sum += c;
        }
        return sum;
    }

    private List<Integer> notesIn(int gallery) {
        List<Integer> list = new ArrayList<>();
        for (Voice v : voices.values()) {
            if (v.place == gallery && v.note != null) {
                list.add(v.note);
            }
        }
        return list;
    }

    private int ownLight(int gallery) {
        List<Integer> notes = notesIn(gallery);
        int best = 0;
        for (int n : notes) {
            boolean third = notes.contains(n - 3) || notes.contains(n + 3) || notes.contains(n - 4)
                    || notes.contains(n + 4);
            if (!(gas[gallery] && third)) {
                best = Math.max(best, n + 1);
            }
        }
        return best;
    }

    int light(int gallery) {
        if (!in(gallery, 0, 9)) {
            return UNKNOWN;
        }
        int best = ownLight(gallery);
        for (int g = 0; g < 10; g++) {
            if (echo[g] == gallery) {
                best = Math.max(best, ownLight(g) / 2);
            }
        }
        return best;
    }

    private int lamps() {
        int set = 0;
        for (int g = 0; g < 10; g++) {
            set += light(g) > 0 ? 1 << g : 0;
        }
        return set;
    }

    int shakes() {
        int set = 0;
        for (int g = 0; g < 10; g++) {
            List<Integer> notes = notesIn(g);
            boolean beats = false;
            for (int n : notes) {
                beats |= notes.contains(n + 1);
            }
            set += beats ? 1 << g : 0;
        }
        return set;
    }

    private int[][] distances(boolean lit) {
        int[][] far = new int[10][10];
        boolean[] open = new boolean[10];
        for (int g = 0; g < 10; g++) {
            open[g] = !closed[g] && (!lit || light(g) > 0);
        }
        for (int i = 0; i < 10; i++) {
            for (int j = 0; j < 10; j++) {
                far[i][j] = !open[i] || !open[j] ? FAR : i == j ? 0 : joined[i][j] ? 1 : FAR;
            }
        }
        for (int k = 0; k < 10; k++) {
            for (int i = 0; i < 10; i++) {
                for (int j = 0; j < 10; j++) {
                    far[i][j] = Math.min(far[i][j], far[i][k] + far[k][j]);
                }
            }
        }
        return far;
    }

    int way(int from, int to, int what) {
        if (!in(from, 0, 9) || !in(to, 0, 9)) {
            return UNKNOWN;
        }
        if (!in(what, 0, 1)) {
            return OUTSIDE;
        }
        int[][] far = distances(true);
        if (far[from][to] >= FAR) {
            return NONE;
        }
        if (what == 0) {
            return far[from][to];
        }
        for (int g = 0; g < 10; g++) {
            if (far[from][g] == 1 && 1 + far[g][to] == far[from][to]) {
                return g;
            }
        }
        return NONE;
    }

    int fewest(int set, int what) {
        if (!in(set, 0, 1023) || !in(what, 0, 1)) {
            return OUTSIDE;
        }
        int best = 1023;
        for (int s = 1022; s >= 0; s--) {
            int lit = s;
            for (int g = 0; g < 10; g++) {
                lit |= (s >> g & 1) << echo[g];
            }
            if ((lit & set) == set && Integer.bitCount(s) <= Integer.bitCount(best)) {
                best = s;
            }
        }
        return what == 0 ? Integer.bitCount(best) : best;
    }

    int keep(int what) {
        if (!in(what, 0, 1)) {
            return OUTSIDE;
        }
        int best = 0;
        for (int s = 255; s >= 0; s--) {
            if (Integer.bitCount(s) >= Integer.bitCount(best) && singOn(s)) {
                best = s;
            }
        }
        return what == 0 ? Integer.bitCount(best) : best;
    }

    private boolean singOn(int set) {
        Model m = copy();
        for (int v = 0; v < 8; v++) {
            boolean sings = voices.containsKey(v) && voices.get(v).note != null;
            if ((set >> v & 1) == 1 && !sings) {
                return false;
            }
            if ((set >> v & 1) == 0) {
                m.voices.remove(v);
            }
        }
        for (int g = 0; g < 10; g++) {
            List<Integer> notes = m.notesIn(g);
            for (int n : notes) {
                if (gas[g] && (notes.contains(n + 3) || notes.contains(n + 4))) {
                    return false;
                }
            }
        }
        return true;
    }

    int cut() {
        int[][] far = distances(false);
        int set = 0;
        for (var entry : voices.entrySet()) {
            set += far[entry.getValue().place][0] >= FAR ? 1 << entry.getKey() : 0;
        }
        return set;
    }

    int hold(int songs, int rests, int what) {
        if (!("" + songs).matches("[1-9]{3}") || !in(rests, 0, 999) || !in(what, 0, 1)) {
            return OUTSIDE;
        }
        return holdOf(songs, rests)[what];
    }

    /** By time: who may sing again when, from each beat on. */
    static int[] holdOf(int songs, int rests) {
        int[] s = {songs / 100, songs / 10 % 10, songs % 10};
        int[] r = {rests / 100, rests / 10 % 10, rests % 10};
        Map<Integer, Integer> known = new HashMap<>();
        int[] row = {0, 0};
        for (int i = 0; i < 3; i++) {
            int[] free = new int[3];
            free[i] = s[i] + r[i];
            int beats = holdFrom(s[i], free, s, r, known);
            if (beats > row[0]) {
                row[0] = beats;
                row[1] = i;
            }
        }
        return row;
    }

    private static int holdFrom(int time, int[] free, int[] s, int[] r, Map<Integer, Integer> known) {
        if (time >= 99) {
            return 99;
        }
        int key = time;
        for (int f : free) {
            key = key * 10 + Math.max(0, f - time);
        }
        Integer seen = known.get(key);
        if (seen != null) {
            return seen;
        }
        int best = time;
        for (int i = 0; i < 3 && best < 99; i++) {
            if (free[i] <= time) {
                int[] next = free.clone();
                next[i] = time + s[i] + r[i];
                best = Math.max(best, holdFrom(time + s[i], next, s, r, known));
            }
        }
        known.put(key, best);
        return best;
    }

    int round(int p, int a, int q, int b) {
        if (!in(p, 1, 99) || !in(q, 1, 99) || !in(a, 0, 99) || !in(b, 0, 99)) {
            return OUTSIDE;
        }
        return roundOf(p, a, q, b);
    }

    static int roundOf(int p, int a, int q, int b) {
        for (int n = 0; n < p * q; n++) {
            if ((a + n) % p == 0 && (b + n) % q == 0) {
                return n;
            }
        }
        return NONE;
    }

    int heard(int gallery, int note) {
        if (!in(gallery, 0, 9)) {
            return UNKNOWN;
        }
        if (!in(note, -1, 23)) {
            return OUTSIDE;
        }
        if (sights.size() == 8) {
            return FULL;
        }
        sights.add(new int[] {gallery, note});
        return sights.size();
    }

    int forget() {
        int were = sights.size();
        sights.clear();
        return were;
    }

    private static int hears(int[][] far, int listener, int lost) {
        int distance = far[listener][lost / 100];
        return distance >= FAR ? -1 : Math.max(-1, lost % 100 - distance);
    }

    private List<Integer> fits(int[][] far) {
        List<Integer> list = new ArrayList<>();
        for (int lost = 0; lost < 1000; lost++) {
            boolean fits = lost % 100 < 24;
            for (int[] sight : sights) {
                fits = fits && hears(far, sight[0], lost) == sight[1];
            }
            if (fits) {
                list.add(lost);
            }
        }
        return list;
    }

    int losts(int i) {
        List<Integer> list = fits(distances(false));
        return i == -1 ? list.size() : in(i, 0, list.size() - 1) ? list.get(i) : NONE;
    }

    int listen(int what) {
        if (!in(what, 0, 1)) {
            return OUTSIDE;
        }
        int[][] far = distances(false);
        List<Integer> list = fits(far);
        if (list.isEmpty()) {
            return NONE;
        }
        int[] best = {NONE, 1000};
        for (int g = 0; g < 10; g++) {
            Map<Integer, Integer> left = new HashMap<>();
            for (int lost : list) {
                left.merge(hears(far, g, lost), 1, Integer::sum);
            }
            int most = java.util.Collections.max(left.values());
            if (most < best[1]) {
                best = new int[] {g, most};
            }
        }
        return best[what];
    }

    long cold(int gallery, int t, int n, int what, int part) {
        if (!in(gallery, 0, 9)) {
            return SongLamps.LOST + UNKNOWN;
        }
        if (!in(t, 0, 10) || !in(n, 0, 9) || !in(what, 0, 1) || !in(part, 0, 1)) {
            return SongLamps.LOST + OUTSIDE;
        }
        int k = notesIn(gallery).size();
        if (what == 0 && n * k > 18) {
            return SongLamps.LOST + STATE;
        }
        BigInteger all = BigInteger.TEN.pow(n);
        BigInteger well = BigInteger.valueOf(10 - t).pow(n);
        BigInteger upper = BigInteger.ZERO;
        for (int set = 1; set < 1 << k; set++) {
            int who = Integer.bitCount(set);
            BigInteger chance = well.pow(who).multiply(all.subtract(well).pow(k - who));
            upper = upper.add(what == 0 ? chance : chance.multiply(BigInteger.valueOf(who)));
        }
        BigInteger lower = all.pow(k);
        BigInteger common = upper.gcd(lower);
        return (part == 0 ? upper : lower).divide(common).longValueExact();
    }

    int year(int seed, int m, int what) {
        if (!in(seed, 0, 9999) || !in(m, 1, 99) || !in(what, 0, 2)) {
            return OUTSIDE;
        }
        Model on = copy();
        int x = seed;
        for (int i = 0; i < m; i++) {
            x = (75 * x + 74) % 65537;
            String who = "" + (char) ('A' + x % 8);
            int to = x / 64 % 10;
            String sing = who + (char) ('a' + x / 64 % 24);
            String go = who + ">" + to;
            String[] draws = {sing, sing, sing, who + "-", go, go, "*" + to, "."};
            String act = draws[x / 8 % 8];
            if (on.whyNot(act) == 0) {
                on.perform(act);
            }
        }
        if (what == 0) {
            return on.allCoal();
        }
        int singing = 0;
        for (int g = 0; g < 10; g++) {
            singing += on.notesIn(g).size();
        }
        return what == 1 ? Integer.bitCount(on.lamps()) : singing;
    }

    int image(int n) {
        if (!in(n, 0, 1)) {
            return OUTSIDE;
        }
        images[n] = copy();
        return 1;
    }

    int restore(int n) {
        if (!in(n, 0, 1)) {
            return OUTSIDE;
        }
        if (images[n] == null) {
            return STATE;
        }
        take(images[n]);
        return 1;
    }

    private static int bits(boolean[] row) {
        int set = 0;
        for (int i = 0; i < row.length; i++) {
            set += row[i] ? 1 << i : 0;
        }
        return set;
    }

    int told(int what) {
        Map<Integer, Integer> rows = new HashMap<>();
        int there = 0;
        for (var entry : voices.entrySet()) {
            Voice v = entry.getValue();
            there += 1 << entry.getKey();
            int[] row = {v.low, v.high, v.breath, v.lungs, v.place, v.note == null ? NONE : v.note};
            for (int i = 0; i < 6; i++) {
                rows.put(10 * (1 + entry.getKey()) + i, row[i]);
            }
        }
        int[] first = {pad.length(), there, lamps(), beat, bits(closed), bits(gas), sights.size()};
        for (int i = 0; i < 7; i++) {
            rows.put(i, first[i]);
        }
        for (int g = 0; g < 10; g++) {
            rows.put(100 + 10 * g, echo[g]);
            rows.put(101 + 10 * g, coal[g]);
            rows.put(102 + 10 * g, bits(joined[g]));
        }
        return rows.getOrDefault(what, OUTSIDE);
    }
}
