import java.util.Arrays;

/** Galleries, voices and the lamps they light: see README.md and the document for what each call answers. */
public final class SongLamps {
    public static final int NONE = -6, UNKNOWN = -1, OUTSIDE = -2, STATE = -3, FULL = -4, NO = -5;
    public static final long LOST = -1000000000000000000L;

    private static final int GALLERIES = 10;
    private static final int ALL_GALLERIES = 1023;
    private static final int VOICES = 8;
    private static final int NOTES = 24;
    private static final int ALL_NOTES = 16777215;
    private static final int MOST_LUNGS = 99;
    private static final int MOST_SIGNS = 60;
    private static final int MOST_SIGHTS = 8;
    private static final int IMAGES = 2;
    private static final int LAST_BEAT = 999;
    private static final int BRIGHT = 8;
    private static final int SILENT = -1;
    private static final int NOTHING = -1;
    private static final int MOST_CHANCES = 18;

    private static final int SING = 0;
    private static final int HUSH = 1;
    private static final int GO = 2;
    private static final int FALL = 3;
    private static final int BEAT = 4;

    private final Mine now;
    private final Mine[] images;
    private final boolean[] kept;
    private final Pad pad;
    private final Lamps lamps;
    private final Trial trial;
    private final Ways ways;
    private final Search search;
    private final Turns turns;

    public SongLamps() {
        now = new Mine();
        images = new Mine[IMAGES];
        for (int i = 0; i < IMAGES; i++) {
            images[i] = new Mine();
        }
        kept = new boolean[IMAGES];
        pad = new Pad();
        lamps = new Lamps();
        trial = new Trial();
        ways = new Ways();
        search = new Search();
        turns = new Turns();
    }

    // ---- 1 galleries, voices, shifts

    public int passage(int a, int b, boolean is) {
        if (!isGallery(a) || !isGallery(b) || a == b) {
            return UNKNOWN;
        }
        now.setPassage(a, b, is);
        return now.passageCount();
    }

    public int gallery(int gallery, int echo, boolean gas) {
        if (!isGallery(gallery) || !isGallery(echo)) {
            return UNKNOWN;
        }
        int was = now.echo[gallery];
        now.echo[gallery] = echo;
        now.gas = gas ? now.gas | 1 << gallery : now.gas & ~(1 << gallery);
        return was;
    }

    public int voice(int voice, int low, int high, int lungs, int gallery) {
        if (!isVoice(voice) || !isGallery(gallery)) {
            return UNKNOWN;
        }
        if (low < 0 || high >= NOTES || low > high || lungs < 0 || lungs > MOST_LUNGS) {
            return OUTSIDE;
        }
        now.there |= 1 << voice;
        now.low[voice] = low;
        now.high[voice] = high;
        now.lungs[voice] = lungs;
        now.breath[voice] = lungs;
        now.place[voice] = gallery;
        now.note[voice] = SILENT;
        return Integer.bitCount(now.there);
    }

    public int breath(int voice, int v) {
        if (!now.isThere(voice)) {
            return UNKNOWN;
        }
        if (v < 0 || v > now.lungs[voice]) {
            return OUTSIDE;
        }
        int was = now.breath[voice];
        now.breath[voice] = v;
        if (v == 0) {
            now.note[voice] = SILENT;
        }
        return was;
    }

    public int leave(int voice) {
        if (!now.isThere(voice)) {
            return UNKNOWN;
        }
        now.there &= ~(1 << voice);
        now.note[voice] = SILENT;
        return Integer.bitCount(now.there);
    }

    public int say(int sign) {
        if (sign < 33 || sign > 126) {
            return OUTSIDE;
        }
        if (pad.size >= MOST_SIGNS) {
            return FULL;
        }
        pad.signs[pad.size] = sign;
        pad.size++;
        return pad.size;
    }

    public int wipe() {
        int were = pad.size;
        pad.size = 0;
        return were;
    }

    public int fault() {
        return pad.readActs();
    }

    // ---- 2 shifts

    public int judge(int what) {
        if (what < 0 || what > 1) {
            return OUTSIDE;
        }
        if (pad.readActs() != NONE) {
            return NO;
        }
        trial.tryActs(pad, now);
        return what == 0 ? trial.stoppedAt : trial.why;
    }

    public int done() {
        if (!canBeDone()) {
            return NO;
        }
        now.become(trial.mine);
        pad.size = 0;
        return pad.acts;
    }

    public int behind(int voice, int what) {
        if (!now.isThere(voice)) {
            return UNKNOWN;
        }
        if (what < 0 || what > 2) {
            return OUTSIDE;
        }
        if (!canBeDone()) {
            return NO;
        }
        Mine mine = trial.mine;
        if (what == 0) {
            return mine.noteOrNone(voice);
        }
        return what == 1 ? mine.breath[voice] : mine.place[voice];
    }

    public int seam(int gallery, int what) {
        if (!isGallery(gallery)) {
            return UNKNOWN;
        }
        if (what < 0 || what > 1) {
            return OUTSIDE;
        }
        if (!canBeDone()) {
            return NO;
        }
        if (what == 1) {
            return trial.mine.coal[gallery];
        }
        lamps.shineOn(trial.mine);
        return lamps.full[gallery];
    }

    public int then(int what) {
        if (what < 0 || what > 4) {
            return OUTSIDE;
        }
        if (!canBeDone()) {
            return NO;
        }
        switch (what) {
            case 0:
                lamps.shineOn(trial.mine);
                return lamps.burning;
            case 1:
                return trial.mine.beat;
            case 2:
                return trial.mine.coalInAll();
            case 3:
                return trial.darkAct;
            default:
                return trial.darkGallery;
        }
    }

    public int light(int gallery) {
        if (!isGallery(gallery)) {
            return UNKNOWN;
        }
        lamps.shineOn(now);
        return lamps.full[gallery];
    }

    public int shakes() {
        int shaking = 0;
        for (int v = 0; v < VOICES; v++) {
            for (int w = 0; w < VOICES; w++) {
                if (now.singTogether(v, w) && now.note[w] - now.note[v] == 1) {
                    shaking |= 1 << now.place[v];
                }
            }
        }
        return shaking;
    }

    // ---- 3 ways, seams, holding

    public int way(int from, int to, int what) {
        if (!isGallery(from) || !isGallery(to)) {
            return UNKNOWN;
        }
        if (what < 0 || what > 1) {
            return OUTSIDE;
        }
        lamps.shineOn(now);
        ways.measure(to, now.passages, lamps.burning & ~now.closed);
        return what == 0 ? ways.far[from] : ways.nextFrom(from, now.passages);
    }

    public int fewest(int set, int what) {
        if (set < 0 || set > ALL_GALLERIES || what < 0 || what > 1) {
            return OUTSIDE;
        }
        // Singing in each gallery of the set itself always lights it, so this is never too few.
        int best = set;
        for (int places = 0; places <= ALL_GALLERIES; places++) {
            if (isBetter(places, best, set)) {
                best = places;
            }
        }
        return what == 0 ? Integer.bitCount(best) : best;
    }

    public int keep(int what) {
        if (what < 0 || what > 1) {
            return OUTSIDE;
        }
        int singing = now.singing();
        int best = 0;
        for (int voices = 1; voices <= singing; voices++) {
            if ((voices & ~singing) == 0 && Integer.bitCount(voices) > Integer.bitCount(best)
                    && canSingOn(voices)) {
                best = voices;
            }
        }
        return what == 0 ? Integer.bitCount(best) : best;
    }

    public int cut() {
        ways.measure(0, now.passages, ALL_GALLERIES & ~now.closed);
        int off = 0;
        for (int v = 0; v < VOICES; v++) {
            if (now.isThere(v) && ways.far[now.place[v]] == NONE) {
                off |= 1 << v;
            }
        }
        return off;
    }

    public int hold(int songs, int rests, int what) {
        if (songs < 111 || songs > 999 || songs % 10 == 0 || songs / 10 % 10 == 0) {
            return OUTSIDE;
        }
        if (rests < 0 || rests > 999 || what < 0 || what > 1) {
            return OUTSIDE;
        }
        turns.settle(songs, rests);
        int first = turns.bestFirst();
        return what == 0 ? turns.beatsFrom(first) : first;
    }

    public int round(int p, int a, int q, int b) {
        if (p < 1 || p > 99 || q < 1 || q > 99 || a < 0 || a > 99 || b < 0 || b > 99) {
            return OUTSIDE;
        }
        int wait = (p - a % p) % p;
        for (int i = 0; i < q; i++) {
            if ((wait + b) % q == 0) {
                return wait;
            }
            wait += p;
        }
        return NONE;
    }

    // ---- 4 the lost one, colds

    public int heard(int gallery, int note) {
        if (!isGallery(gallery)) {
            return UNKNOWN;
        }
        if (note < NOTHING || note >= NOTES) {
            return OUTSIDE;
        }
        if (now.sights >= MOST_SIGHTS) {
            return FULL;
        }
        now.sightPlace[now.sights] = gallery;
        now.sightNote[now.sights] = note;
        now.sights++;
        return now.sights;
    }

    public int forget() {
        int were = now.sights;
        now.sights = 0;
        return were;
    }

    public int losts(int i) {
        search.findFits(now);
        return i == -1 ? search.fitCount() : search.fitAt(i);
    }

    public int listen(int what) {
        if (what < 0 || what > 1) {
            return OUTSIDE;
        }
        search.findFits(now);
        if (search.fitCount() == 0) {
            return NONE;
        }
        search.chooseListening(now);
        return what == 0 ? search.listenAt : search.mostLeft;
    }

    public long cold(int gallery, int t, int n, int what, int part) {
        if (!isGallery(gallery)) {
            return LOST + UNKNOWN;
        }
        if (t < 0 || t > 10 || n < 0 || n > 9 || what < 0 || what > 1 || part < 0 || part > 1) {
            return LOST + OUTSIDE;
        }
        int singers = now.singersIn(gallery);
        if (what == 0 && n * singers > MOST_CHANCES) {
            return LOST + STATE;
        }
        long all = power(10, n);
        long well = power(10 - t, n);
        if (what == 1) {
            return lowestTerms(singers * well, all, part);
        }
        long lower = power(all, singers);
        return lowestTerms(lower - power(all - well, singers), lower, part);
    }

    public int year(int seed, int m, int what) {
        if (seed < 0 || seed > 9999 || m < 1 || m > 99 || what < 0 || what > 2) {
            return OUTSIDE;
        }
        trial.drawActs(now, seed, m);
        if (what == 0) {
            return trial.mine.coalInAll();
        }
        if (what == 2) {
            return Integer.bitCount(trial.mine.singing());
        }
        lamps.shineOn(trial.mine);
        return Integer.bitCount(lamps.burning);
    }

    public int image(int n) {
        if (n < 0 || n >= IMAGES) {
            return OUTSIDE;
        }
        images[n].become(now);
        kept[n] = true;
        return 1;
    }

    public int restore(int n) {
        if (n < 0 || n >= IMAGES) {
            return OUTSIDE;
        }
        if (!kept[n]) {
            return STATE;
        }
        now.become(images[n]);
        return 1;
    }

    public int told(int what) {
        if (what < 0 || what >= 100 + 10 * GALLERIES) {
            return OUTSIDE;
        }
        if (what >= 100) {
            return toldOfGallery((what - 100) / 10, what % 10);
        }
        if (what >= 10) {
            return toldOfVoice(what / 10 - 1, what % 10);
        }
        return toldOfAll(what);
    }

    private int toldOfAll(int what) {
        switch (what) {
            case 0:
                return pad.size;
            case 1:
                return now.there;
            case 2:
                lamps.shineOn(now);
                return lamps.burning;
            case 3:
                return now.beat;
            case 4:
                return now.closed;
            case 5:
                return now.gas;
            case 6:
                return now.sights;
            default:
                return OUTSIDE;
        }
    }

    private int toldOfVoice(int voice, int what) {
        if (!now.isThere(voice)) {
            return OUTSIDE;
        }
        switch (what) {
            case 0:
                return now.low[voice];
            case 1:
                return now.high[voice];
            case 2:
                return now.breath[voice];
            case 3:
                return now.lungs[voice];
            case 4:
                return now.place[voice];
            case 5:
                return now.noteOrNone(voice);
            default:
                return OUTSIDE;
        }
    }

    private int toldOfGallery(int gallery, int what) {
        if (!isGallery(gallery)) {
            return OUTSIDE;
        }
        switch (what) {
            case 0:
                return now.echo[gallery];
            case 1:
                return now.coal[gallery];
            case 2:
                return now.passages[gallery];
            default:
                return OUTSIDE;
        }
    }

    private boolean canBeDone() {
        if (pad.readActs() != NONE) {
            return false;
        }
        trial.tryActs(pad, now);
        return trial.stoppedAt == NONE;
    }

    private boolean isBetter(int places, int best, int set) {
        int more = Integer.bitCount(places) - Integer.bitCount(best);
        if (more > 0 || more == 0 && places >= best) {
            return false;
        }
        int lit = places;
        for (int g = 0; g < GALLERIES; g++) {
            if (has(places, g)) {
                lit |= 1 << now.echo[g];
            }
        }
        return (set & ~lit) == 0;
    }

    private boolean canSingOn(int voices) {
        for (int v = 0; v < VOICES; v++) {
            for (int w = 0; w < v; w++) {
                if (has(voices, v) && has(voices, w) && now.clash(v, w)) {
                    return false;
                }
            }
        }
        return true;
    }

    private static boolean isGallery(int g) {
        return g >= 0 && g < GALLERIES;
    }

    private static boolean isVoice(int v) {
        return v >= 0 && v < VOICES;
    }

    private static boolean has(int set, int i) {
        return (set >> i & 1) == 1;
    }

    private static int leastOf(int set) {
        return set == 0 ? NONE : Integer.numberOfTrailingZeros(set);
    }

    private static long power(long base, int times) {
        long product = 1;
        for (int i = 0; i < times; i++) {
            product *= base;
        }
        return product;
    }

    private static long lowestTerms(long upper, long lower, int part) {
        long divisor = commonDivisor(upper, lower);
        if (divisor < 1) {
            return part == 0 ? upper : lower;
        }
        return part == 0 ? upper / divisor : lower / divisor;
    }

    private static long commonDivisor(long a, long b) {
        long x = a;
        long y = b;
        // Euclid needs fewer than a hundred steps for numbers of 64 bits.
        for (int i = 0; i < 100 && y != 0; i++) {
            long left = x % y;
            x = y;
            y = left;
        }
        return x;
    }

    /** All that an image keeps: everything but the pad. */
    private static final class Mine {
        final int[] passages = new int[GALLERIES];
        final int[] echo = new int[GALLERIES];
        final int[] coal = new int[GALLERIES];
        int gas;
        int closed;
        int there;
        int beat;
        int sights;
        final int[] low = new int[VOICES];
        final int[] high = new int[VOICES];
        final int[] lungs = new int[VOICES];
        final int[] breath = new int[VOICES];
        final int[] place = new int[VOICES];
        final int[] note = new int[VOICES];
        final int[] sightPlace = new int[MOST_SIGHTS];
        final int[] sightNote = new int[MOST_SIGHTS];

        Mine() {
            for (int g = 0; g < GALLERIES; g++) {
                echo[g] = g;
            }
            Arrays.fill(note, SILENT);
        }

        void become(Mine other) {
            gas = other.gas;
            closed = other.closed;
            there = other.there;
            beat = other.beat;
            sights = other.sights;
            System.arraycopy(other.passages, 0, passages, 0, GALLERIES);
            System.arraycopy(other.echo, 0, echo, 0, GALLERIES);
            System.arraycopy(other.coal, 0, coal, 0, GALLERIES);
            System.arraycopy(other.low, 0, low, 0, VOICES);
            System.arraycopy(other.high, 0, high, 0, VOICES);
            System.arraycopy(other.lungs, 0, lungs, 0, VOICES);
            System.arraycopy(other.breath, 0, breath, 0, VOICES);
            System.arraycopy(other.place, 0, place, 0, VOICES);
            System.arraycopy(other.note, 0, note, 0, VOICES);
            System.arraycopy(other.sightPlace, 0, sightPlace, 0, MOST_SIGHTS);
            System.arraycopy(other.sightNote, 0, sightNote, 0, MOST_SIGHTS);
        }

        void setPassage(int a, int b, boolean is) {
            passages[a] = is ? passages[a] | 1 << b : passages[a] & ~(1 << b);
            passages[b] = is ? passages[b] | 1 << a : passages[b] & ~(1 << a);
        }

        int passageCount() {
            int ends = 0;
            for (int g = 0; g < GALLERIES; g++) {
                ends += Integer.bitCount(passages[g]);
            }
            return ends / 2;
        }

        int coalInAll() {
            int sum = 0;
            for (int g = 0; g < GALLERIES; g++) {
                sum += coal[g];
            }
            return sum;
        }

        boolean isThere(int voice) {
            return isVoice(voice) && has(there, voice);
        }

        /** Who is not there is silent, too. */
        boolean isSinging(int voice) {
            return note[voice] != SILENT;
        }

        int noteOrNone(int voice) {
            return isSinging(voice) ? note[voice] : NONE;
        }

        int singing() {
            int set = 0;
            for (int v = 0; v < VOICES; v++) {
                if (isSinging(v)) {
                    set |= 1 << v;
                }
            }
            return set;
        }

        int singersIn(int gallery) {
            int count = 0;
            for (int v = 0; v < VOICES; v++) {
                if (isSinging(v) && place[v] == gallery) {
                    count++;
                }
            }
            return count;
        }

        boolean singTogether(int v, int w) {
            return note[v] != SILENT && note[w] != SILENT && place[v] == place[w];
        }

        /** Whether firedamp takes out the notes of these two. */
        boolean clash(int v, int w) {
            if (!has(gas, place[v]) || !singTogether(v, w)) {
                return false;
            }
            int apart = Math.abs(note[v] - note[w]);
            return apart == 3 || apart == 4;
        }

        boolean isTakenOut(int voice) {
            if (!has(gas, place[voice])) {
                return false;
            }
            for (int w = 0; w < VOICES; w++) {
                if (clash(voice, w)) {
                    return true;
                }
            }
            return false;
        }
    }

    /** The light of every gallery of a mine, as it was when it was last looked at. */
    private static final class Lamps {
        final int[] plain = new int[GALLERIES];
        final int[] full = new int[GALLERIES];
        int burning;

        void shineOn(Mine mine) {
            Arrays.fill(plain, 0);
            for (int v = 0; v < VOICES; v++) {
                if (mine.isSinging(v) && !mine.isTakenOut(v)) {
                    int g = mine.place[v];
                    plain[g] = Math.max(plain[g], 1 + mine.note[v]);
                }
            }
            System.arraycopy(plain, 0, full, 0, GALLERIES);
            for (int g = 0; g < GALLERIES; g++) {
                int e = mine.echo[g];
                full[e] = Math.max(full[e], plain[g] / 2);
            }
            burning = 0;
            for (int g = 0; g < GALLERIES; g++) {
                burning |= full[g] > 0 ? 1 << g : 0;
            }
        }
    }

    /** The signs that were said, and the acts that they spell. */
    private static final class Pad {
        final int[] signs = new int[MOST_SIGNS];
        int size;
        final int[] kind = new int[MOST_SIGNS];
        final int[] who = new int[MOST_SIGNS];
        final int[] number = new int[MOST_SIGNS];
        int acts;
        private int next;

        /** The place of the fault, or NONE. */
        int readActs() {
            acts = 0;
            next = 0;
            for (int i = 0; i < MOST_SIGNS && next < size; i++) {
                if (!readAct()) {
                    return next;
                }
            }
            return NONE;
        }

        /** Stops at the first sign that can not stand there. */
        private boolean readAct() {
            int first = signAt(next);
            if (first == '.') {
                next++;
                return addAct(BEAT, 0, 0);
            }
            if (first == '*') {
                next++;
                return readGallery(FALL, 0);
            }
            if (first < 'A' || first >= 'A' + VOICES) {
                return false;
            }
            next++;
            return readDeed(first - 'A');
        }

        private boolean readDeed(int voice) {
            int sign = signAt(next);
            if (sign >= 'a' && sign < 'a' + NOTES) {
                next++;
                return addAct(SING, voice, sign - 'a');
            }
            if (sign == '-') {
                next++;
                return addAct(HUSH, voice, 0);
            }
            if (sign != '>') {
                return false;
            }
            next++;
            return readGallery(GO, voice);
        }

        private boolean readGallery(int what, int voice) {
            int sign = signAt(next);
            if (sign < '0' || sign > '9') {
                return false;
            }
            next++;
            return addAct(what, voice, sign - '0');
        }

        private boolean addAct(int what, int voice, int value) {
            if (acts >= MOST_SIGNS) {
                return false;
            }
            kind[acts] = what;
            who[acts] = voice;
            number[acts] = value;
            acts++;
            return true;
        }

        /** 0, which is no sign, where there is none. */
        private int signAt(int i) {
            return i >= 0 && i < size && i < MOST_SIGNS ? signs[i] : 0;
        }
    }

    /** Acts on a mine of its own, so that nothing is done in fact. */
    private static final class Trial {
        final Mine mine = new Mine();
        int stoppedAt = NONE;
        int why = NONE;
        int darkAct = NONE;
        int darkGallery = NONE;
        private final Lamps lamps = new Lamps();

        void tryActs(Pad pad, Mine from) {
            mine.become(from);
            stoppedAt = NONE;
            why = NONE;
            darkAct = NONE;
            darkGallery = NONE;
            lamps.shineOn(mine);
            for (int i = 0; i < pad.acts && i < MOST_SIGNS; i++) {
                int reason = whyNot(pad.kind[i], pad.who[i], pad.number[i]);
                if (reason != 0) {
                    stoppedAt = i;
                    why = reason;
                    return;
                }
                int ahead = lamps.burning;
                act(pad.kind[i], pad.who[i], pad.number[i]);
                lamps.shineOn(mine);
                rememberDark(i, ahead & ~lamps.burning);
            }
        }

        void drawActs(Mine from, int seed, int m) {
            mine.become(from);
            int x = seed;
            for (int i = 0; i < m; i++) {
                x = (75 * x + 74) % 65537;
                int kind = drawnKind(x / 8 % 8);
                int number = x / 64 % (kind == SING ? NOTES : GALLERIES);
                if (whyNot(kind, x % 8, number) == 0) {
                    if (kind == BEAT) {
                        lamps.shineOn(mine);
                    }
                    act(kind, x % 8, number);
                }
            }
        }

        private static int drawnKind(int draw) {
            if (draw <= 2) {
                return SING;
            }
            if (draw == 3) {
                return HUSH;
            }
            if (draw <= 5) {
                return GO;
            }
            return draw == 6 ? FALL : BEAT;
        }

        private void rememberDark(int act, int darkened) {
            if (darkAct == NONE && darkened != 0) {
                darkAct = act;
                darkGallery = leastOf(darkened);
            }
        }

        /** The least reason why it can not be, 0 if it can. */
        private int whyNot(int kind, int who, int number) {
            switch (kind) {
                case SING:
                    return whyNotSing(who, number);
                case HUSH:
                    return !mine.isThere(who) ? 1 : mine.note[who] == SILENT ? 3 : 0;
                case GO:
                    return whyNotGo(who, number);
                case BEAT:
                    return mine.beat >= LAST_BEAT ? 7 : 0;
                default:
                    return 0;
            }
        }

        private int whyNotSing(int who, int note) {
            if (!mine.isThere(who)) {
                return 1;
            }
            if (note < mine.low[who] || note > mine.high[who]) {
                return 2;
            }
            if (mine.note[who] == note) {
                return 3;
            }
            return mine.breath[who] == 0 ? 4 : 0;
        }

        private int whyNotGo(int who, int gallery) {
            if (!mine.isThere(who)) {
                return 1;
            }
            int here = mine.place[who];
            if (!has(mine.passages[here], gallery)) {
                return 5;
            }
            return has(mine.closed, here) || has(mine.closed, gallery) ? 6 : 0;
        }

        /** Ahead of a beat the lamps must have been lit for the mine as it is: coal is cut by their light. */
        private void act(int kind, int who, int number) {
            switch (kind) {
                case SING:
                    mine.note[who] = number;
                    break;
                case HUSH:
                    mine.note[who] = SILENT;
                    break;
                case GO:
                    mine.place[who] = number;
                    break;
                case FALL:
                    mine.closed ^= 1 << number;
                    break;
                default:
                    passBeat();
                    break;
            }
        }

        private void passBeat() {
            for (int v = 0; v < VOICES; v++) {
                if (mine.isSinging(v)) {
                    spendBreath(v);
                } else if (mine.isThere(v)) {
                    cutCoal(v);
                    mine.breath[v] = Math.min(mine.lungs[v], mine.breath[v] + 1);
                }
            }
            mine.beat++;
        }

        private void spendBreath(int voice) {
            mine.breath[voice]--;
            if (mine.breath[voice] <= 0) {
                mine.breath[voice] = 0;
                mine.note[voice] = SILENT;
            }
        }

        private void cutCoal(int voice) {
            int g = mine.place[voice];
            int light = lamps.full[g];
            mine.coal[g] += light > BRIGHT ? 2 : light > 0 ? 1 : 0;
        }
    }

    /** How far each gallery is from one of them. */
    private static final class Ways {
        final int[] far = new int[GALLERIES];

        /** Through open galleries alone, both ends too; NONE where there is no way. */
        void measure(int start, int[] passages, int open) {
            Arrays.fill(far, NONE);
            int front = open & 1 << start;
            int seen = front;
            for (int steps = 0; steps < GALLERIES && front != 0; steps++) {
                int next = 0;
                for (int g = 0; g < GALLERIES; g++) {
                    if (has(front, g)) {
                        far[g] = steps;
                        next |= passages[g];
                    }
                }
                front = next & open & ~seen;
                seen |= front;
            }
        }

        /** The least gallery next to this one on a shortest way to where it was measured from. */
        int nextFrom(int from, int[] passages) {
            if (far[from] == NONE || far[from] == 0) {
                return NONE;
            }
            for (int g = 0; g < GALLERIES; g++) {
                if (has(passages[from], g) && far[g] == far[from] - 1) {
                    return g;
                }
            }
            return NONE;
        }
    }

    /** Where the lost one may be: of each gallery the notes that fit, as bits. */
    private static final class Search {
        private final Ways ways = new Ways();
        private final int[] fits = new int[GALLERIES];
        /** How many are left by what one hears: nothing, note 0, note 1 and so on. */
        private final int[] left = new int[1 + NOTES];
        int listenAt = NONE;
        int mostLeft = NONE;

        void findFits(Mine mine) {
            Arrays.fill(fits, ALL_NOTES);
            for (int s = 0; s < mine.sights && s < MOST_SIGHTS; s++) {
                ways.measure(mine.sightPlace[s], mine.passages, ALL_GALLERIES & ~mine.closed);
                for (int g = 0; g < GALLERIES; g++) {
                    fits[g] &= notesHeardAs(mine.sightNote[s], ways.far[g]);
                }
            }
        }

        int fitCount() {
            int count = 0;
            for (int g = 0; g < GALLERIES; g++) {
                count += Integer.bitCount(fits[g]);
            }
            return count;
        }

        int fitAt(int i) {
            int toSkip = i;
            if (toSkip < 0) {
                return NONE;
            }
            for (int g = 0; g < GALLERIES; g++) {
                int here = Integer.bitCount(fits[g]);
                if (toSkip < here) {
                    return 100 * g + bitAt(fits[g], toSkip);
                }
                toSkip -= here;
            }
            return NONE;
        }

        void chooseListening(Mine mine) {
            listenAt = NONE;
            mostLeft = NONE;
            for (int g = 0; g < GALLERIES; g++) {
                ways.measure(g, mine.passages, ALL_GALLERIES & ~mine.closed);
                int most = mostLeftHere();
                if (listenAt == NONE || most < mostLeft) {
                    listenAt = g;
                    mostLeft = most;
                }
            }
        }

        private int mostLeftHere() {
            Arrays.fill(left, 0);
            for (int g = 0; g < GALLERIES; g++) {
                countHeard(fits[g], ways.far[g]);
            }
            int most = 0;
            for (int i = 0; i <= NOTES; i++) {
                most = Math.max(most, left[i]);
            }
            return most;
        }

        private void countHeard(int notes, int far) {
            if (far < 0) {
                left[0] += Integer.bitCount(notes);
                return;
            }
            for (int n = 0; n < NOTES; n++) {
                if (has(notes, n)) {
                    left[n < far ? 0 : 1 + n - far]++;
                }
            }
        }

        private static int notesHeardAs(int heardNote, int far) {
            if (far < 0) {
                return heardNote == NOTHING ? ALL_NOTES : 0;
            }
            if (heardNote == NOTHING) {
                return (1 << far) - 1;
            }
            int note = heardNote + far;
            return note < NOTES ? 1 << note : 0;
        }

        private static int bitAt(int set, int index) {
            int rest = set;
            for (int i = 0; i < index; i++) {
                rest &= rest - 1;
            }
            return leastOf(rest);
        }
    }

    /**
     * Three who hold a light. A state is 100 times the one who sang last (its whole rest is ahead of it),
     * and the rest that is left to the other two, as two digits.
     */
    private static final class Turns {
        private static final int MOST_BEATS = 99;
        private static final int SINGERS = 3;
        private static final int STATES = 300;
        private final int[] song = new int[SINGERS];
        private final int[] rest = new int[SINGERS];
        private final int[] further = new int[STATES];
        private final int[] met = new int[STATES];
        private int meets;

        void settle(int songs, int rests) {
            song[0] = songs / 100;
            song[1] = songs / 10 % 10;
            song[2] = songs % 10;
            rest[0] = rests / 100;
            rest[1] = rests / 10 % 10;
            rest[2] = rests % 10;
            meetStates();
            boolean more = true;
            // A song has a beat at least, so each path is at its end, or at 99, by then.
            for (int i = 0; i <= MOST_BEATS && more; i++) {
                more = lookFurther();
            }
        }

        int beatsFrom(int first) {
            return Math.min(MOST_BEATS, song[first] + further[100 * first]);
        }

        int bestFirst() {
            int best = 0;
            for (int v = 1; v < SINGERS; v++) {
                if (beatsFrom(v) > beatsFrom(best)) {
                    best = v;
                }
            }
            return best;
        }

        /** Only states that can be met are looked at further: far fewer than all. */
        private void meetStates() {
            Arrays.fill(further, NONE);
            meets = 0;
            for (int v = 0; v < SINGERS; v++) {
                meet(100 * v);
            }
            for (int i = 0; i < meets && i < STATES; i++) {
                for (int v = 0; v < SINGERS; v++) {
                    meet(stateBehind(met[i], v));
                }
            }
        }

        private void meet(int state) {
            if (state >= 0 && state < STATES && further[state] == NONE && meets < STATES) {
                further[state] = 0;
                met[meets] = state;
                meets++;
            }
        }

        private boolean lookFurther() {
            boolean more = false;
            for (int i = meets - 1; i >= 0; i--) {
                int beats = beatsBehind(met[i]);
                if (beats > further[met[i]]) {
                    further[met[i]] = beats;
                    more = true;
                }
            }
            return more;
        }

        private int beatsBehind(int state) {
            int most = 0;
            for (int v = 0; v < SINGERS; v++) {
                int next = stateBehind(state, v);
                if (next >= 0 && next < STATES) {
                    most = Math.max(most, song[v] + further[next]);
                }
            }
            return Math.min(MOST_BEATS, most);
        }

        /** NONE if this one is not rested yet. */
        private int stateBehind(int state, int v) {
            if (restLeft(state, v) > 0) {
                return NONE;
            }
            int one = Math.max(0, restLeft(state, firstOther(v)) - song[v]);
            int two = Math.max(0, restLeft(state, secondOther(v)) - song[v]);
            return 100 * v + 10 * one + two;
        }

        private int restLeft(int state, int v) {
            int last = state / 100;
            if (v == last) {
                return rest[v];
            }
            return v == firstOther(last) ? state / 10 % 10 : state % 10;
        }

        private static int firstOther(int v) {
            return v == 0 ? 1 : 0;
        }

        private static int secondOther(int v) {
            return v == 2 ? 1 : 2;
        }
    }
}
