/** The edges of promises 23 to 31, a sentence at a time. */
final class LostEdgesTest {
    private static final Edge E = new Edge("LostEdgesTest");
    private static final int NONE = -6, UNKNOWN = -1, OUTSIDE = -2, STATE = -3, FULL = -4;
    private static final long LOST = -1000000000000000000L;

    public static void main(String[] args) {
        heardNote();
        heardEight();
        forgetAll();
        lostsIndex();
        lostsEmpty();
        lostsBelowNought();
        lostsAboveTheHighest();
        lostsWithoutAWay();
        lostsAsNow();
        listenNone();
        listenLeast();
        listenAtTheMost();
        coldRanges();
        coldState();
        coldNever();
        coldLargest();
        coldWhoSings();
        yearRanges();
        yearCounts();
        yearCanBe();
        yearDraws();
        yearInFact();
        imageKept();
        imageAllButThePad();
        imageOfItsOwn();
        restoreNotKept();
        toldCodes();
        toldVoices();
        toldGalleries();
        toldLeastAndMost();
        E.end();
    }

    private static SongLamps row() {
        SongLamps x = new SongLamps();
        for (int g = 0; g < 9; g++) {
            x.passage(g, g + 1, true);
        }
        return x;
    }

    private static void heardNote() {
        E.sentence("23: OUTSIDE: the NOTE -1 to 23");
        E.range("heard(0, n)", Scene.EMPTY, -1, 23, OUTSIDE, (x, n) -> x.heard(0, n));
        E.range("heard(9, n)", Scene.BUSY, -1, 23, OUTSIDE, (x, n) -> x.heard(9, n));
        E.range("heard(9, n)", Scene.CROWDED, -1, 23, OUTSIDE, (x, n) -> x.heard(9, n));
    }

    private static void heardEight() {
        E.sentence("23: SIGHTS, 8 at most: A SIGHT more: how many; FULL");
        SongLamps x = new SongLamps();
        for (int i = 1; i <= 8; i++) {
            E.due("SIGHT " + i, x.heard(0, 23), i);
            E.due("told(6)", x.told(6), i);
        }
        E.due("SIGHT 9", x.heard(0, 23), FULL);
        E.due("SIGHT 9, another one", x.heard(1, -1), FULL);
        E.due("told(6)", x.told(6), 8);
        E.due("the ninth is not looked at", x.losts(-1), 1);
        E.due("forget()", x.forget(), 8);
        E.due("there is room anew", x.heard(9, 0), 1);
        SongLamps y = new SongLamps();
        for (int g = 0; g < 7; g++) {
            y.heard(g, -1);
        }
        E.due("seven of ten", y.losts(-1), 72);
        E.due("the eighth counts", y.heard(8, -1), 8);
        E.due("eight of ten", y.losts(-1), 48);
        E.due("the first of them counts", y.losts(0), 700);
    }

    private static void forgetAll() {
        E.sentence("24: SIGHTS go: how many there were");
        SongLamps x = new SongLamps();
        E.due("none", x.forget(), 0);
        for (int n = 1; n <= 8; n++) {
            for (int i = 0; i < n; i++) {
                x.heard(i, 0);
            }
            E.due("as many", x.forget(), n);
            E.due("told(6)", x.told(6), 0);
            E.due("all fit again", x.losts(-1), 240);
            E.due("none again", x.forget(), 0);
        }
        SongLamps y = Scene.CROWDED.made();
        E.due("eight", y.forget(), 8);
        E.due("signs stay", y.told(0), 60);
        E.due("VOICES stay", y.told(1), 255);
    }

    private static void lostsIndex() {
        E.sentence("25: LOSTS: how many (i = -1), the i-th (rising); NONE");
        SongLamps x = new SongLamps();
        E.due("how many", x.losts(-1), 240);
        for (int i = 0; i < 240; i++) {
            E.due("losts(" + i + ")", x.losts(i), i / 24 * 100 + i % 24);
        }
        int[] none = {240, 241, 256, 1000, 65536, Integer.MAX_VALUE, Integer.MIN_VALUE, Integer.MIN_VALUE + 1, -2, -3,
            -240, -241, -65537};
        for (int i : none) {
            E.refused("losts(" + i + ")", Scene.EMPTY, y -> y.losts(i), NONE);
            E.refused("losts(" + i + ")", Scene.CROWDED, y -> y.losts(i), NONE);
        }
    }

    private static void lostsEmpty() {
        E.sentence("25: by which all SIGHTS are so");
        SongLamps x = new SongLamps();
        x.heard(0, 5);
        E.due("one", x.losts(-1), 1);
        E.due("the first", x.losts(0), 5);
        E.due("there is no second", x.losts(1), NONE);
        x.heard(0, 5);
        E.due("the same again", x.losts(-1), 1);
        x.heard(0, 6);
        E.due("none", x.losts(-1), 0);
        E.due("no first", x.losts(0), NONE);
        x.forget();
        x.heard(0, -1);
        E.due("nothing is heard in 0", x.losts(-1), 216);
        E.due("so it is elsewhere", x.losts(0), 100);
        x.forget();
        for (int g = 0; g < 8; g++) {
            x.heard(g, -1);
        }
        E.due("eight are silent", x.losts(-1), 48);
    }

    private static void lostsBelowNought() {
        E.sentence("25: a NOTE lower by 1 for each PASSAGE between; below 0 one hears nothing");
        for (int far = 1; far < 10; far++) {
            SongLamps x = row();
            x.heard(0, 0);
            E.due("NOTE " + far + " is heard as 0", x.losts(far), 101 * far);
            E.due("one in each GALLERY", x.losts(-1), 10);
            x.forget();
            x.heard(0, -1);
            E.due("lower ones are not heard", x.losts(-1), 45);
            E.due("the highest of them in " + far, x.losts(far * (far + 1) / 2 - 1), 101 * far - 1);
        }
        SongLamps x = row();
        x.heard(0, -1);
        E.due("how many", x.losts(-1), 45);
        x.heard(9, -1);
        int both = 0;
        for (int g = 0; g < 10; g++) {
            both += Math.min(g, 9 - g);
        }
        E.due("from neither end", x.losts(-1), both);
    }

    private static void lostsAboveTheHighest() {
        E.sentence("25: a NOTE (0 to 23), heard lower by 1 for each PASSAGE between");
        for (int note = 0; note < 24; note++) {
            SongLamps x = row();
            x.heard(0, note);
            int many = Math.min(10, 24 - note);
            E.due("heard(0, " + note + ")", x.losts(-1), many);
            E.due("the first", x.losts(0), note);
            E.due("the last", x.losts(many - 1), 100 * (many - 1) + note + many - 1);
            E.due("no more", x.losts(many), NONE);
            x.forget();
            x.heard(9, note);
            E.due("heard(9, " + note + ")", x.losts(-1), many);
            E.due("the last of these", x.losts(many - 1), 900 + note);
            E.due("no more of these", x.losts(many), NONE);
        }
    }

    private static void lostsWithoutAWay() {
        E.sentence("25: (the fewest, by none that is CLOSED, both ends, too), without a way, one hears nothing");
        SongLamps x = row();
        x.heard(0, 3);
        E.due("open", x.losts(-1), 10);
        Check.act(x, "*5");
        E.due("to 4", x.losts(-1), 5);
        Check.act(x, "*0");
        E.due("who listens is in one that is CLOSED", x.losts(-1), 0);
        Check.act(x, "*0*5*9");
        E.due("the lost one would be in one that is CLOSED", x.losts(-1), 9);
        Check.act(x, "*9");
        x.passage(0, 9, true);
        E.due("the fewest", x.losts(9), 904);
        E.due("the fewest, in 5", x.losts(5), 508);
        E.due("the fewest, in 6", x.losts(6), 607);
        x.forget();
        x.heard(7, 3);
        x.heard(7, 3);
        Check.act(x, "*7");
        E.due("not even its own, where it is CLOSED", x.losts(-1), 0);
        x.forget();
        x.heard(7, -1);
        E.due("all are silent there", x.losts(-1), 240);
    }

    private static void lostsAsNow() {
        E.sentence("25: PASSAGES as now");
        SongLamps x = new SongLamps();
        x.heard(0, 3);
        E.due("no PASSAGE", x.losts(-1), 1);
        x.passage(0, 1, true);
        E.due("one", x.losts(-1), 2);
        E.due("there", x.losts(1), 104);
        x.passage(0, 1, false);
        E.due("none again", x.losts(-1), 1);
        E.due("it is dark, and nobody there: no matter", x.told(2), 0);
    }

    private static void listenNone() {
        E.sentence("26: NONE: there are no LOSTS");
        SongLamps x = new SongLamps();
        x.heard(0, 3);
        x.heard(0, 4);
        E.due("the GALLERY", x.listen(0), NONE);
        E.due("how many", x.listen(1), NONE);
        E.due("OUTSIDE comes first", x.listen(2), OUTSIDE);
        E.due("OUTSIDE comes first", x.listen(-1), OUTSIDE);
        x.forget();
        E.due("all are", x.listen(0), 0);
        E.due("all but 24 at the most", x.listen(1), 216);
    }

    private static void listenLeast() {
        E.sentence("26: LISTEN: the GALLERY to listen in next: the least");
        for (int g = 0; g < 10; g++) {
            for (int note = 0; note < 24; note++) {
                SongLamps x = new SongLamps();
                x.heard(g, note);
                E.due("one is left wherever", x.listen(0), 0);
                E.due("one is left wherever", x.listen(1), 1);
            }
        }
        for (int g = 0; g < 9; g++) {
            SongLamps x = new SongLamps();
            x.passage(g, 9, true);
            E.due("the least of two", x.listen(0), g);
            E.due("all but 48, and NOTE 0 of the other one", x.listen(1), 193);
        }
        SongLamps x = new SongLamps();
        Check.act(x, "*0*1*2");
        E.due("the least that is not CLOSED", x.listen(0), 3);
        Check.act(x, "*3*4*5*6*7*8");
        E.due("9 alone is not CLOSED", x.listen(0), 9);
        E.due("9 alone is not CLOSED", x.listen(1), 216);
        Check.act(x, "*9");
        E.due("nothing is heard wherever", x.listen(0), 0);
        E.due("nothing is heard wherever", x.listen(1), 240);
    }

    private static void listenAtTheMost() {
        E.sentence("26: so that, whatever one hears, fewest of these are left at the most: how many");
        SongLamps x = row();
        Model m = new Model();
        for (int g = 0; g < 9; g++) {
            m.passage(g, g + 1, true);
        }
        for (int i = 0; i < 40; i++) {
            int gallery = i * 7 % 10;
            int note = i * 5 % 25 - 1;
            x.heard(gallery, note);
            m.heard(gallery, note);
            E.due("the GALLERY behind heard(" + gallery + ", " + note + ")", x.listen(0), m.listen(0));
            E.due("how many behind heard(" + gallery + ", " + note + ")", x.listen(1), m.listen(1));
            if (i % 3 == 2 || x.losts(-1) == 0) {
                x.forget();
                m.forget();
            }
        }
    }

    /** So many sing in 9, with a single BREATH each. */
    private static SongLamps sing(int many) {
        SongLamps x = new SongLamps();
        for (int v = 0; v < many; v++) {
            x.voice(v, 0, 23, 1, 9);
        }
        Check.act(x, songs(many));
        return x;
    }

    private static String songs(int many) {
        return "AaBcCeDgEiFkGmHo".substring(0, 2 * many);
    }

    private static void coldRanges() {
        E.sentence("27: t tenths (0 to 10), n beats (0 to 9); OUTSIDE");
        for (int w = 0; w < 2; w++) {
            int what = w;
            for (int p = 0; p < 2; p++) {
                int part = p;
                String end = ", " + what + ", " + part + ")";
                E.range("cold(0, n, 9" + end, Scene.BUSY, 0, 10, LOST + OUTSIDE, (x, n) -> x.cold(0, n, 9, what, part));
                E.range("cold(0, 9, n" + end, Scene.BUSY, 0, 9, LOST + OUTSIDE, (x, n) -> x.cold(0, 9, n, what, part));
                E.range("cold(9, n, 0" + end, Scene.EMPTY, 0, 10, LOST + OUTSIDE, (x, n) -> x.cold(9, n, 0, what, part));
            }
        }
    }

    private static void coldState() {
        E.sentence("27: STATE: n times how many SING there is above 18 (what = 0)");
        for (int many = 0; many <= 8; many++) {
            for (int n = 0; n <= 9; n++) {
                SongLamps x = sing(many);
                boolean refused = n * many > 18;
                for (int part = 0; part < 2; part++) {
                    String call = "cold(9, 1, " + n + ", .., " + part + ") of " + many;
                    long got = x.cold(9, 1, n, 0, part);
                    E.due(call + " is refused", got == LOST + STATE ? 1 : 0, refused ? 1 : 0);
                    E.due(call + " is no less than 0 else", got >= 0 ? 1 : 0, refused ? 0 : 1);
                    E.due(call + " has a mean", x.cold(9, 1, n, 1, part) >= 0 ? 1 : 0, 1);
                    E.due(call + " elsewhere", x.cold(8, 1, n, 0, part), part);
                }
            }
        }
        SongLamps x = sing(3);
        String ahead = Scene.seen(x, 0);
        E.due("refused", x.cold(9, 1, 7, 0, 0), LOST + STATE);
        E.same("changes nothing", Scene.seen(x, 0), ahead);
    }

    private static void coldIs(SongLamps x, int[] call, long upper, long lower) {
        String told = "cold(" + call[0] + ", " + call[1] + ", " + call[2] + ", " + call[3];
        E.due(told + ", 0)", x.cold(call[0], call[1], call[2], call[3], 0), upper);
        E.due(told + ", 1)", x.cold(call[0], call[1], call[2], call[3], 1), lower);
    }

    private static void coldNever() {
        E.sentence("27: with t tenths (0 to 10), behind n beats (0 to 9)");
        for (int many = 0; many <= 8; many++) {
            SongLamps x = sing(many);
            int some = many > 0 ? 1 : 0;
            for (int t = 0; t <= 10; t++) {
                coldIs(x, new int[] {9, t, 0, 0}, some, 1);
                coldIs(x, new int[] {9, t, 0, 1}, many, 1);
            }
            for (int n = 1; n <= 2; n++) {
                coldIs(x, new int[] {9, 0, n, 0}, some, 1);
                coldIs(x, new int[] {9, 0, n, 1}, many, 1);
                coldIs(x, new int[] {9, 10, n, 0}, 0, 1);
                coldIs(x, new int[] {9, 10, n, 1}, 0, 1);
            }
            coldIs(x, new int[] {9, 0, 9, 1}, many, 1);
            coldIs(x, new int[] {9, 10, 9, 1}, 0, 1);
        }
        coldIs(sing(1), new int[] {9, 9, 1, 0}, 1, 10);
        coldIs(sing(1), new int[] {9, 1, 1, 0}, 9, 10);
        coldIs(sing(2), new int[] {9, 9, 1, 0}, 19, 100);
        coldIs(sing(2), new int[] {9, 1, 1, 1}, 9, 5);
    }

    private static void coldLargest() {
        E.sentence("27: colds by chance, exactly");
        coldIs(sing(2), new int[] {9, 9, 9, 0}, 1999999999L, 1000000000000000000L);
        coldIs(sing(2), new int[] {9, 1, 9, 0}, 624746342703000879L, 1000000000000000000L);
        coldIs(sing(1), new int[] {9, 9, 9, 0}, 1, 1000000000);
        coldIs(sing(1), new int[] {9, 9, 9, 1}, 1, 1000000000);
        coldIs(sing(8), new int[] {9, 9, 9, 1}, 1, 125000000);
        coldIs(sing(8), new int[] {9, 1, 9, 1}, 387420489, 125000000);
        for (int many = 1; many <= 8; many++) {
            SongLamps x = sing(many);
            Model m = new Model();
            for (int v = 0; v < many; v++) {
                m.voice(v, 0, 23, 1, 9);
            }
            songs(many).chars().forEach(m::say);
            m.done();
            for (int t = 0; t <= 10; t++) {
                for (int n = Math.min(9, 18 / many); n >= 0; n -= 3) {
                    for (int what = 0; what < 2; what++) {
                        coldIs(x, new int[] {9, t, n, what}, m.cold(9, t, n, what, 0), m.cold(9, t, n, what, 1));
                    }
                }
            }
        }
    }

    private static void coldWhoSings() {
        E.sentence("27: somebody still SINGS in a GALLERY of those who do now (BREATH is no matter)");
        SongLamps x = new SongLamps();
        coldIs(x, new int[] {0, 5, 1, 0}, 0, 1);
        coldIs(x, new int[] {0, 5, 1, 1}, 0, 1);
        x.voice(0, 0, 23, 1, 0);
        x.voice(1, 0, 23, 1, 0);
        x.voice(2, 0, 23, 1, 9);
        coldIs(x, new int[] {0, 0, 1, 1}, 0, 1);
        Check.act(x, "AaCd");
        coldIs(x, new int[] {0, 0, 9, 0}, 1, 1);
        coldIs(x, new int[] {0, 0, 9, 1}, 1, 1);
        Check.act(x, "Bd");
        x.gallery(0, 0, true);
        coldIs(x, new int[] {0, 0, 9, 1}, 2, 1);
        coldIs(x, new int[] {9, 0, 9, 1}, 1, 1);
        coldIs(x, new int[] {5, 0, 9, 1}, 0, 1);
        Check.act(x, "A-");
        coldIs(x, new int[] {0, 0, 9, 1}, 1, 1);
        x.leave(1);
        coldIs(x, new int[] {0, 0, 9, 1}, 0, 1);
    }

    private static void yearRanges() {
        E.sentence("28: a seed (0 to 9999) of m ACTS (1 to 99); OUTSIDE");
        for (Scene scene : new Scene[] {Scene.EMPTY, Scene.BUSY, Scene.CROWDED}) {
            E.range("year(n, 1, 0)", scene, 0, 9999, OUTSIDE, (x, n) -> x.year(n, 1, 0));
            E.range("year(9999, n, 1)", scene, 1, 99, OUTSIDE, (x, n) -> x.year(9999, n, 1));
            E.range("year(0, n, 2)", scene, 1, 99, OUTSIDE, (x, n) -> x.year(0, n, 2));
        }
    }

    private static void yearCounts() {
        E.sentence("28: COAL in all; lamps that burn; VOICES that SING");
        for (int seed = 0; seed < 10000; seed += 101) {
            for (Scene scene : new Scene[] {Scene.EMPTY, Scene.BUSY, Scene.CROWDED}) {
                SongLamps x = scene.made();
                int coal = 0;
                for (int g = 0; g < 10; g++) {
                    coal += x.told(101 + 10 * g);
                }
                E.due("COAL is no less than it was", x.year(seed, 99, 0) >= coal ? 1 : 0, 1);
                int lamps = x.year(seed, 99, 1);
                E.due("lamps are 0 to 10", lamps >= 0 && lamps <= 10 ? 1 : 0, 1);
                int voices = x.year(seed, 99, 2);
                E.due("VOICES are 0 to as many as are there",
                        voices >= 0 && voices <= Integer.bitCount(x.told(1)) ? 1 : 0, 1);
            }
        }
        SongLamps x = sing(8);
        // Of seed 6 the first draw is 524: by 8 it is 65, left over by 8: 1; voice 4 sings 8, as it does.
        E.due("all eight sing, an act that can not be", x.year(6, 1, 2), 8);
        E.due("in one GALLERY", x.year(6, 1, 1), 1);
        E.due("no COAL", x.year(6, 1, 0), 0);
    }

    /** The first draw of seed n is 75 n + 74 up to 872: which act that is, and what comes of it. */
    private static void yearCanBe() {
        E.sentence("28: each if that can be");
        SongLamps x = new SongLamps();
        // 74: voice 2; 9 left over by 8 is 1: it sings 74 by 64, cut: 1.
        yearIs(x, "nobody is there", 0, 0, 0, 0);
        x.voice(2, 1, 1, 9, 7);
        yearIs(x, "it sings", 0, 0, 1, 1);
        x.voice(2, 2, 23, 9, 7);
        yearIs(x, "none of its NOTES", 0, 0, 0, 0);
        x.voice(2, 1, 1, 0, 7);
        yearIs(x, "no BREATH", 0, 0, 0, 0);
        // 75 * 6 + 74 = 524 is voice 4, 65: 1, 8; 75 * 4 + 74 = 374 is voice 6, 46: 6, a fall in 5.
        x.voice(6, 0, 23, 9, 5);
        x.voice(4, 0, 23, 9, 5);
        Check.act(x, "Ga");
        yearIs(x, "a fall is no matter for lamps", 4, 0, 1, 1);
        // 75 * 2 + 74 = 224 is voice 0, 28: 4, to gallery 3; 75 * 8 + 74 = 674 is voice 2, 84: 4, to gallery 0.
        x.voice(0, 0, 23, 9, 1);
        x.gallery(1, 9, false);
        Check.act(x, "AbG-");
        yearIs(x, "no PASSAGE to 3", 2, 0, 2, 1);
        x.passage(1, 3, true);
        yearIs(x, "to 3, which has no ECHO", 2, 0, 1, 1);
        Check.act(x, "*3");
        yearIs(x, "CLOSED", 2, 0, 2, 1);
        Check.act(x, "*3*1");
        yearIs(x, "CLOSED", 2, 0, 2, 1);
    }

    private static void yearIs(SongLamps x, String told, int seed, int coal, int lamps, int voices) {
        E.due("COAL, " + told, x.year(seed, 1, 0), coal);
        E.due("lamps, " + told, x.year(seed, 1, 1), lamps);
        E.due("VOICES, " + told, x.year(seed, 1, 2), voices);
    }

    /** The draws are written on the pad of a twin, one by one, and done there in fact. */
    private static void yearDraws() {
        E.sentence("28: x becomes (75 x and 74) left over by 65537; of VOICE x left over by 8 ...");
        int[] seeds = {0, 1, 2, 872, 873, 874, 1747, 4369, 6553, 8738, 9998, 9999};
        for (int seed : seeds) {
            for (int m : new int[] {1, 2, 3, 10, 50, 98, 99}) {
                for (Scene scene : new Scene[] {Scene.EMPTY, Scene.BUSY, Scene.STUCK}) {
                    SongLamps twin = scene.made();
                    twin.wipe();
                    doYear(twin, seed, m);
                    SongLamps x = scene.made();
                    String told = "year(" + seed + ", " + m + ", ..) in " + scene + ", ";
                    E.due(told + "COAL", x.year(seed, m, 0), twin.then(2));
                    E.due(told + "lamps", x.year(seed, m, 1), Integer.bitCount(twin.told(2)));
                    int sing = 0;
                    for (int v = 0; v < 8; v++) {
                        sing += twin.told(15 + 10 * v) >= 0 ? 1 : 0;
                    }
                    E.due(told + "VOICES", x.year(seed, m, 2), sing);
                }
            }
        }
    }

    private static void doYear(SongLamps x, int seed, int m) {
        long draw = seed;
        for (int i = 0; i < m; i++) {
            draw = (75 * draw + 74) % 65537;
            char who = (char) ('A' + draw % 8);
            long by = draw / 64;
            String text;
            switch ((int) (draw / 8 % 8)) {
                case 0, 1, 2 -> text = who + "" + (char) ('a' + by % 24);
                case 3 -> text = who + "-";
                case 4, 5 -> text = who + ">" + by % 10;
                case 6 -> text = "*" + by % 10;
                default -> text = ".";
            }
            text.chars().forEach(x::say);
            if (x.done() < 0) {
                x.wipe();
            }
        }
    }

    private static void yearInFact() {
        E.sentence("28: from all as it is ... Nothing is DONE in fact");
        for (Scene scene : Scene.values()) {
            for (int seed : new int[] {0, 1, 77, 5000, 9999}) {
                E.changesNothing("year(" + seed + ", 99, 0)", scene, x -> x.year(seed, 99, 0));
            }
        }
        SongLamps x = Scene.FAULTY.made();
        E.due("the PAD is no matter", x.year(77, 99, 0), Scene.BUSY.made().year(77, 99, 0));
        E.due("and again the same", x.year(77, 99, 0), Scene.BUSY.made().year(77, 99, 0));
    }

    private static void imageKept() {
        E.sentence("29: kept in an IMAGE (0, 1): 1; 30: It is as it was when it was kept: 1");
        for (int n = 0; n < 2; n++) {
            SongLamps x = new SongLamps();
            E.due("restore ahead of it", x.restore(n), STATE);
            E.due("image", x.image(n), 1);
            E.due("the other one is not kept", x.restore(1 - n), STATE);
            E.due("restore", x.restore(n), 1);
            E.same("nothing was, nothing is", Scene.seen(x, 0), Scene.EMPTY.seenAhead(0));
            E.due("restore again", x.restore(n), 1);
            E.due("image again", x.image(n), 1);
        }
    }

    private static void imageAllButThePad() {
        E.sentence("29: All but the PAD is kept");
        for (int i = 0; i < 2; i++) {
            int n = i;
            for (Scene scene : Scene.values()) {
                SongLamps x = scene.made();
                E.due("image(" + n + ")", x.image(n), 1);
                E.same("image changes nothing else in " + scene, Scene.seen(x, 0), scene.seenAhead(0));
                SongLamps y = scene.made();
                y.image(n);
                changeAll(y);
                E.due("restore(" + n + ")", y.restore(n), 1);
                E.due("the PAD is as it was ahead of restore", y.told(0), 3);
                SongLamps z = scene.made();
                Check.write(z, "*0.");
                E.same("all else is as it was in " + scene, Scene.seen(y, 0), Scene.seen(z, 0));
            }
        }
    }

    private static void changeAll(SongLamps x) {
        for (int g = 0; g < 9; g++) {
            x.passage(g, g + 1, x.told(3) == 0);
            x.gallery(g, g + 1, (x.told(5) >> g & 1) == 0);
        }
        x.leave(0);
        x.leave(7);
        x.voice(1, 0, 23, 77, 8);
        x.voice(2, 3, 4, 5, 6);
        x.voice(6, 0, 23, 77, 8);
        Check.act(x, "BxGj...*0*9");
        x.forget();
        x.heard(4, 4);
        x.heard(4, 5);
        Check.write(x, "*0.");
    }

    private static void imageOfItsOwn() {
        E.sentence("30: It is as it was when it was kept");
        SongLamps x = new SongLamps();
        x.image(0);
        x.voice(3, 0, 23, 9, 3);
        x.heard(3, 3);
        x.image(1);
        Check.act(x, "Dd.");
        E.due("restore(1)", x.restore(1), 1);
        E.due("silent", x.told(45), NONE);
        Check.act(x, "De.*3");
        x.forget();
        E.due("restore(1) once more", x.restore(1), 1);
        E.due("silent", x.told(45), NONE);
        E.due("BREATH", x.told(42), 9);
        E.due("the beat", x.told(3), 0);
        E.due("CLOSED", x.told(4), 0);
        E.due("SIGHTS", x.told(6), 1);
        E.due("what was heard", x.losts(0), 303);
        E.due("restore(0)", x.restore(0), 1);
        E.due("nobody", x.told(1), 0);
        E.due("no SIGHTS", x.told(6), 0);
        E.due("restore(1) all the same", x.restore(1), 1);
        E.due("VOICES", x.told(1), 8);
        E.due("image(0) anew", x.image(0), 1);
        x.leave(3);
        E.due("restore(0)", x.restore(0), 1);
        E.due("VOICES by the new one", x.told(1), 8);
        SongLamps other = new SongLamps();
        E.due("another object has none", other.restore(0), STATE);
    }

    private static void restoreNotKept() {
        E.sentence("30: OUTSIDE; STATE: it was not");
        E.refused("restore(0)", Scene.EMPTY, x -> x.restore(0), STATE);
        E.refused("restore(1)", Scene.EMPTY, x -> x.restore(1), STATE);
        for (Scene scene : new Scene[] {Scene.BUSY, Scene.FAULTY, Scene.STUCK}) {
            E.refused("restore(1)", scene, x -> x.restore(1), STATE);
        }
        E.refused("a refused image keeps none", Scene.EMPTY, x -> x.image(2) == OUTSIDE ? x.restore(0) : 0, STATE);
        E.refused("a refused image keeps none", Scene.EMPTY, x -> x.image(-1) == OUTSIDE ? x.restore(1) : 0, STATE);
    }

    private static void toldCodes() {
        E.sentence("31: what is told: OUTSIDE");
        for (Scene scene : Scene.values()) {
            SongLamps x = scene.made();
            int there = x.told(1);
            for (int what = -20; what <= 230; what++) {
                boolean all = what >= 0 && what <= 6;
                boolean voice = what >= 10 && what < 90 && what % 10 <= 5 && (there >> what / 10 - 1 & 1) == 1;
                boolean gallery = what >= 100 && what < 200 && what % 10 <= 2;
                E.due("told(" + what + ") in " + scene + " is refused", x.told(what) == OUTSIDE ? 1 : 0,
                        all || voice || gallery ? 0 : 1);
            }
            int[] far = {Integer.MIN_VALUE, Integer.MIN_VALUE + 10, -100, -10, -1, 200, 256, 266, 1000, 65536, 65546,
                Integer.MAX_VALUE - 100, Integer.MAX_VALUE};
            for (int what : far) {
                E.refused("told(" + what + ")", scene, y -> y.told(what), OUTSIDE);
            }
        }
    }

    private static void toldVoices() {
        E.sentence("31: 10 times (1 and a VOICE that is there)");
        for (int v = 0; v < 8; v++) {
            SongLamps x = new SongLamps();
            x.voice(v, v, v + 8, 10 + v, 9 - v);
            x.breath(v, v);
            E.due("VOICES", x.told(1), 1 << v);
            int[] due = {v, v + 8, v, 10 + v, 9 - v, NONE, OUTSIDE, OUTSIDE, OUTSIDE, OUTSIDE};
            for (int w = 0; w < 9; w++) {
                for (int what = 0; what < 10; what++) {
                    int number = 10 * (1 + w) + what;
                    E.due("told(" + number + ") with VOICE " + v, x.told(number), w == v ? due[what] : OUTSIDE);
                }
            }
            x.breath(v, 1);
            Check.act(x, (char) ('A' + v) + "" + (char) ('a' + v));
            E.due("its NOTE", x.told(15 + 10 * v), v);
        }
    }

    private static void toldGalleries() {
        E.sentence("31: 100 and 10 times a GALLERY and 0 ECHO, 1 COAL, 2 PASSAGES (bits)");
        for (int g = 0; g < 10; g++) {
            SongLamps x = new SongLamps();
            int other = (g + 3) % 10;
            x.gallery(g, other, true);
            x.passage(g, other, true);
            x.voice(0, 0, 23, 9, g);
            x.voice(1, 0, 23, 9, g);
            Check.act(x, "Aa.*" + g);
            E.due("ECHO", x.told(100 + 10 * g), other);
            E.due("COAL", x.told(101 + 10 * g), 1);
            E.due("PASSAGES", x.told(102 + 10 * g), 1 << other);
            E.due("none further", x.told(103 + 10 * g), OUTSIDE);
            E.due("CLOSED", x.told(4), 1 << g);
            E.due("GAS", x.told(5), 1 << g);
            E.due("lamps", x.told(2), 1 << g);
            E.due("ECHO of the other one", x.told(100 + 10 * other), other);
            E.due("COAL of the other one", x.told(101 + 10 * other), 0);
            E.due("PASSAGES of the other one", x.told(102 + 10 * other), 1 << g);
        }
    }

    private static void toldLeastAndMost() {
        E.sentence("31: 0 signs, 1 VOICES (bits), 2 lamps (bits), 3 the beat, 4 CLOSED (bits), 5 GAS (bits), 6 SIGHTS");
        int[] crowded = {60, 255, 569, 2, 256, 8, 8};
        SongLamps x = Scene.CROWDED.made();
        SongLamps y = new SongLamps();
        for (int what = 0; what < 7; what++) {
            E.due("told(" + what + ") where all is full", x.told(what), crowded[what]);
            E.due("told(" + what + ") of a new one", y.told(what), 0);
        }
        for (int g = 0; g < 10; g++) {
            y.gallery(g, g, true);
        }
        Check.act(y, "*0*1*2*3*4*5*6*7*8*9");
        E.due("all CLOSED", y.told(4), 1023);
        E.due("all in GAS", y.told(5), 1023);
        E.due("no such GALLERY", y.heard(10, 0), UNKNOWN);
        E.due("no SIGHT of it", y.told(6), 0);
    }
}
