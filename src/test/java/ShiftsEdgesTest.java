/** The edges of promises 10 to 16, a sentence at a time: acts, beats, light. */
final class ShiftsEdgesTest {
    private static final Edge E = new Edge("ShiftsEdgesTest");
    private static final int NONE = -6, NO = -5;

    public static void main(String[] args) {
        reasonNoVoice();
        reasonNote();
        reasonAlready();
        reasonBreath();
        reasonPassage();
        reasonClosed();
        reasonLastBeat();
        leastReason();
        firstAct();
        judgeNone();
        doneActs();
        doneNothing();
        behindEmpty();
        behindVoice();
        behindLamps();
        thenDark();
        thenDarkNone();
        thenDarkLeast();
        fallTurns();
        beatCoal();
        beatCoalOfMany();
        beatLightAhead();
        beatBreath();
        beatBreathBack();
        beatCount();
        lightOfNotes();
        lightInGas();
        lightOfEchoes();
        lightBurns();
        shakesByOne();
        E.end();
    }

    private static char letter(int note) {
        return (char) ('a' + note);
    }

    private static void judged(SongLamps x, String text, int act, int why) {
        Check.write(x, text);
        E.due("judge(0) of " + text, x.judge(0), act);
        E.due("judge(1) of " + text, x.judge(1), why);
        E.due("then(1) of " + text + " is refused if an act can not be", x.then(1) == NO ? 1 : 0, act == NONE ? 0 : 1);
    }

    private static void reasonNoVoice() {
        E.sentence("10: 1 there is no such VOICE");
        for (int v = 0; v < 8; v++) {
            char who = (char) ('A' + v);
            SongLamps x = new SongLamps();
            x.passage(0, 1, true);
            for (int w = 0; w < 8; w++) {
                if (w != v) {
                    x.voice(w, 0, 23, 9, 0);
                }
            }
            judged(x, who + "a", 0, 1);
            judged(x, who + "-", 0, 1);
            judged(x, who + ">1", 0, 1);
            x.voice(v, 0, 23, 9, 0);
            judged(x, who + "a" + who + "-" + who + ">1", NONE, NONE);
            x.leave(v);
            judged(x, who + "a", 0, 1);
        }
    }

    private static void reasonNote() {
        E.sentence("10: 2 the NOTE is none of its own");
        int[][] ranges = {{0, 0}, {23, 23}, {0, 23}, {5, 10}, {1, 22}, {12, 12}};
        for (int[] range : ranges) {
            SongLamps x = new SongLamps();
            x.voice(7, range[0], range[1], 1, 0);
            for (int note = 0; note < 24; note++) {
                boolean own = note >= range[0] && note <= range[1];
                judged(x, "H" + letter(note), own ? NONE : 0, own ? NONE : 2);
            }
        }
    }

    private static void reasonAlready() {
        E.sentence("10: 3 it SINGS that NOTE already, is silent already");
        SongLamps x = new SongLamps();
        x.voice(0, 0, 23, 9, 0);
        x.voice(1, 0, 23, 9, 0);
        judged(x, "A-", 0, 3);
        judged(x, "AaA-A-", 2, 3);
        judged(x, "AaAa", 1, 3);
        judged(x, "AaAbAaAa", 3, 3);
        judged(x, "AaA-Aa", NONE, NONE);
        judged(x, "AaBa", NONE, NONE);
        judged(x, "AaB-", 1, 3);
        E.due("A sings a", Check.act(x, "Aa"), 1);
        judged(x, "Aa", 0, 3);
        judged(x, "Ab", NONE, NONE);
        judged(x, "A-", NONE, NONE);
        x.breath(0, 1);
        judged(x, ".A-", 1, 3);
        judged(x, "..Aa", NONE, NONE);
    }

    private static void reasonBreath() {
        E.sentence("10: 4 it has no BREATH (SINGS)");
        SongLamps x = new SongLamps();
        x.passage(0, 1, true);
        x.voice(0, 0, 23, 2, 0);
        x.breath(0, 0);
        judged(x, "Aa", 0, 4);
        judged(x, "A-", 0, 3);
        judged(x, "A>1", NONE, NONE);
        judged(x, ".Aa", NONE, NONE);
        x.breath(0, 1);
        judged(x, "Aa", NONE, NONE);
        judged(x, "Aa.Aa", 2, 4);
        judged(x, "Aa..Aa", NONE, NONE);
        x.voice(1, 0, 23, 0, 0);
        judged(x, "Ba", 0, 4);
        judged(x, ".".repeat(58) + "Ba", 58, 4);
    }

    private static void reasonPassage() {
        E.sentence("10: 5 there is no such PASSAGE (>)");
        for (int g = 0; g < 10; g++) {
            SongLamps x = new SongLamps();
            x.voice(0, 0, 23, 2, g);
            int next = (g + 1) % 10;
            x.passage(g, next, true);
            for (int to = 0; to < 10; to++) {
                judged(x, "A>" + to, to == next ? NONE : 0, to == next ? NONE : 5);
            }
            judged(x, "A>" + next + "A>" + g, NONE, NONE);
            judged(x, "A>" + next + "A>" + next, 1, 5);
        }
    }

    private static void reasonClosed() {
        E.sentence("10: 6 the one GALLERY or the other one is CLOSED (>)");
        SongLamps x = new SongLamps();
        x.passage(0, 9, true);
        x.voice(0, 0, 23, 2, 0);
        for (int g = 0; g < 10; g++) {
            boolean matters = g == 0 || g == 9;
            judged(x, "*" + g + "A>9", matters ? 1 : NONE, matters ? 6 : NONE);
            judged(x, "*" + g + "*" + g + "A>9", NONE, NONE);
        }
        judged(x, "*0*9A>9", 2, 6);
        judged(x, "A>9*9A>0", 2, 6);
        judged(x, "*0AaA-.", NONE, NONE);
        Check.act(x, "*9");
        judged(x, "A>9", 0, 6);
        judged(x, "*9A>9", NONE, NONE);
    }

    /** More than 512 calls are needed to come there: what the class answers then is free, and kept all the same. */
    private static void reasonLastBeat() {
        E.sentence("10: 7 it is beat 999 (.)");
        SongLamps x = new SongLamps();
        x.voice(0, 0, 23, 9, 0);
        for (int i = 0; i < 16; i++) {
            Check.act(x, ".".repeat(60));
        }
        E.due("the beat", x.told(3), 960);
        judged(x, ".".repeat(39), NONE, NONE);
        judged(x, ".".repeat(40), 39, 7);
        judged(x, ".".repeat(60), 39, 7);
        E.due("to beat 998", Check.act(x, ".".repeat(38)), 38);
        judged(x, ".", NONE, NONE);
        judged(x, "..", 1, 7);
        E.due("to beat 999", Check.act(x, "."), 1);
        E.due("the beat", x.told(3), 999);
        judged(x, ".", 0, 7);
        judged(x, "Aa*0A-", NONE, NONE);
        E.due("beat 1000", Check.act(x, "."), NO);
        E.due("the beat stays", x.told(3), 999);
        for (int seed = 0; seed < 10; seed++) {
            E.due("no beat in a year, so no coal", x.year(seed, 99, 0), 0);
        }
    }

    private static void leastReason() {
        E.sentence("10: An ACT can not be for the least of these reasons");
        SongLamps x = new SongLamps();
        x.passage(0, 1, true);
        x.voice(0, 5, 10, 3, 0);
        x.voice(1, 5, 10, 0, 0);
        judged(x, "*0*1*9C>9", 3, 1);
        judged(x, "Be", 0, 2);
        judged(x, "Bl", 0, 2);
        judged(x, "Bf", 0, 4);
        judged(x, "B-", 0, 3);
        judged(x, "*0*9A>9", 2, 5);
        judged(x, "*0A>0", 1, 5);
        judged(x, "*1A>1", 1, 6);
    }

    private static void firstAct() {
        E.sentence("10: of SHIFTS the first ACT (from 0 on) that can not be, and why");
        SongLamps x = new SongLamps();
        x.voice(0, 5, 10, 99, 0);
        judged(x, "A-AeAf", 0, 3);
        judged(x, "AeA-Af", 0, 2);
        judged(x, "AfAeA-A-", 1, 2);
        judged(x, "*0*0*0A>1Ae", 3, 5);
        judged(x, ".".repeat(58) + "A-", 58, 3);
        judged(x, "AfA-".repeat(14) + "AfAf", 29, 3);
        judged(x, "*0".repeat(28) + "*0A-", 29, 3);
    }

    private static void judgeNone() {
        E.sentence("10: JUDGED: NONE");
        judged(new SongLamps(), "", NONE, NONE);
        judged(Scene.CROWDED.made(), "", NONE, NONE);
        judged(new SongLamps(), ".".repeat(60), NONE, NONE);
        judged(new SongLamps(), "*0".repeat(30), NONE, NONE);
        SongLamps x = new SongLamps();
        x.voice(0, 0, 23, 99, 0);
        judged(x, "AaA-".repeat(15), NONE, NONE);
    }

    private static void doneActs() {
        E.sentence("11: SHIFTS on the PAD are DONE (it is empty then): ACTS");
        SongLamps x = new SongLamps();
        x.passage(0, 1, true);
        x.voice(0, 0, 23, 99, 0);
        E.due("none", x.done(), 0);
        E.due("sixty beats", Check.act(x, ".".repeat(60)), 60);
        E.due("it is empty then", x.told(0), 0);
        E.due("twenty ways", Check.act(x, "A>1A>0".repeat(10)), 20);
        E.due("thirty falls", Check.act(x, "*9".repeat(30)), 30);
        E.due("an even number of falls is none", x.told(4), 0);
        E.due("once more", x.done(), 0);
        E.due("the beat", x.told(3), 60);
    }

    private static void doneNothing() {
        E.sentence("11: NO: there is a FAULT, or an ACT that can not be");
        for (String end : new String[] {"A", "A>", "*", "!", "A-", "Ay", "A>5", "Bz", "Ba"}) {
            SongLamps x = new SongLamps();
            x.passage(0, 1, true);
            x.voice(0, 0, 23, 99, 0);
            SongLamps twin = new SongLamps();
            twin.passage(0, 1, true);
            twin.voice(0, 0, 23, 99, 0);
            String text = "*4.A>1" + end;
            E.due("done() of " + text, Check.act(x, text), NO);
            E.due("the signs stay", x.wipe(), text.length());
            E.same("none of the acts is DONE", Scene.seen(x, 0), Scene.seen(twin, 0));
        }
    }

    private static void behindEmpty() {
        E.sentence("12, 13, 14: BEHIND no ACTS all is as it is");
        for (Scene scene : Scene.values()) {
            SongLamps x = scene.made();
            x.wipe();
            for (int v = 0; v < 8; v++) {
                boolean there = (x.told(1) >> v & 1) == 1;
                E.due("NOTE in " + scene, x.behind(v, 0), there ? x.told(15 + 10 * v) : -1);
                E.due("BREATH in " + scene, x.behind(v, 1), there ? x.told(12 + 10 * v) : -1);
                E.due("GALLERY in " + scene, x.behind(v, 2), there ? x.told(14 + 10 * v) : -1);
            }
            int coal = 0;
            for (int g = 0; g < 10; g++) {
                E.due("LIGHT in " + scene, x.seam(g, 0), x.light(g));
                E.due("COAL in " + scene, x.seam(g, 1), x.told(101 + 10 * g));
                coal += x.told(101 + 10 * g);
            }
            E.due("lamps in " + scene, x.then(0), x.told(2));
            E.due("the beat in " + scene, x.then(1), x.told(3));
            E.due("COAL in all in " + scene, x.then(2), coal);
            E.due("the ACT in " + scene, x.then(3), NONE);
            E.due("the GALLERY in " + scene, x.then(4), NONE);
        }
    }

    private static void behindVoice() {
        E.sentence("12: BEHIND: NOTE (NONE), BREATH, GALLERY");
        SongLamps x = new SongLamps();
        x.passage(0, 9, true);
        x.voice(7, 0, 23, 99, 0);
        Check.write(x, "Ha");
        E.due("NOTE 0 is a NOTE", x.behind(7, 0), 0);
        Check.write(x, "Hx");
        E.due("NOTE 23", x.behind(7, 0), 23);
        Check.write(x, "HxH-");
        E.due("silent", x.behind(7, 0), NONE);
        Check.write(x, "Hx" + ".".repeat(58));
        E.due("BREATH", x.behind(7, 1), 41);
        Check.write(x, "H>9");
        E.due("GALLERY 9", x.behind(7, 2), 9);
        Check.write(x, "H>9H>0");
        E.due("GALLERY 0", x.behind(7, 2), 0);
        E.due("not DONE", x.told(85), NONE);
    }

    private static void behindLamps() {
        E.sentence("13, 14: BEHIND: LIGHT, lamps (bits), not being DONE");
        SongLamps x = new SongLamps();
        x.voice(0, 0, 23, 9, 0);
        x.voice(1, 0, 23, 9, 9);
        E.due("none", x.then(0), 0);
        Check.write(x, "Ax");
        E.due("lamps behind it", x.then(0), 1);
        E.due("lamps now", x.told(2), 0);
        E.due("LIGHT behind it", x.seam(0, 0), 24);
        E.due("LIGHT now", x.light(0), 0);
        E.due("lamps behind it again", x.then(0), 1);
        E.due("done()", x.done(), 1);
        Check.write(x, "BxA-");
        E.due("lamps behind it", x.then(0), 512);
        E.due("lamps now", x.told(2), 1);
        E.due("lamps behind it again", x.then(0), 512);
        E.due("LIGHT now", x.light(0), 24);
        E.due("LIGHT behind it", x.seam(0, 0), 0);
    }

    private static void thenDark() {
        E.sentence("14: the first ACT behind which a lamp burns no more that did ahead of it");
        SongLamps x = new SongLamps();
        x.passage(0, 1, true);
        x.voice(0, 0, 23, 3, 0);
        x.voice(1, 0, 23, 3, 0);
        E.due("A sings ahead of it", Check.act(x, "Af"), 1);
        dark(x, "A-", 0, 0);
        dark(x, "A>1", 0, 0);
        dark(x, "...", 2, 0);
        dark(x, "A-Af", 0, 0);
        dark(x, "*0*0*0*0A-", 4, 0);
        dark(x, "BgA-B-", 2, 0);
        dark(x, "A>1A>0A-", 0, 0);
        x.gallery(0, 0, true);
        dark(x, "Bg", NONE, NONE);
        dark(x, "Bi", 0, 0);
        dark(x, "Bj", 0, 0);
        dark(x, "BgBi", 1, 0);
        x.gallery(0, 7, false);
        dark(x, "BgA>1B-", 2, 0);
        dark(x, "AbAa", 1, 7);
    }

    private static void dark(SongLamps x, String text, int act, int gallery) {
        Check.write(x, text);
        E.due("then(3) of " + text, x.then(3), act);
        E.due("then(4) of " + text, x.then(4), gallery);
    }

    private static void thenDarkNone() {
        E.sentence("14: the ACT (NONE), the GALLERY (NONE)");
        SongLamps x = new SongLamps();
        x.passage(0, 1, true);
        x.voice(0, 0, 23, 3, 0);
        x.voice(1, 0, 23, 3, 0);
        dark(x, "", NONE, NONE);
        dark(x, "...", NONE, NONE);
        dark(x, "Af..", NONE, NONE);
        dark(x, "AfBgA-", NONE, NONE);
        dark(x, "AfBgA>1", NONE, NONE);
        dark(x, "AxAa", NONE, NONE);
        dark(x, "Af*0*0", NONE, NONE);
        dark(x, "A>1B>1", NONE, NONE);
    }

    private static void thenDarkLeast() {
        E.sentence("14: the least such GALLERY");
        SongLamps x = new SongLamps();
        x.voice(0, 0, 23, 1, 9);
        x.voice(1, 0, 23, 1, 4);
        x.voice(2, 0, 23, 2, 0);
        dark(x, "AfBfCf.", 3, 4);
        dark(x, "AfBfCf..", 3, 4);
        dark(x, "CfBfAf.", 3, 4);
        x.gallery(9, 2, false);
        dark(x, "AfBfCf.", 3, 2);
        dark(x, "AfAa", 1, 2);
        dark(x, "AfA-Bf.", 1, 2);
    }

    private static void fallTurns() {
        E.sentence("11: a fall: that GALLERY is CLOSED, or is not any more");
        SongLamps x = new SongLamps();
        int set = 0;
        for (int g = 0; g < 10; g++) {
            E.due("a fall in " + g, Check.act(x, "*" + g), 1);
            set += 1 << g;
            E.due("CLOSED", x.told(4), set);
        }
        for (int g = 0; g < 10; g++) {
            E.due("a fall in " + g, Check.act(x, "*" + g), 1);
            set -= 1 << g;
            E.due("CLOSED", x.told(4), set);
        }
        E.due("three", Check.act(x, "*5*5*5"), 3);
        E.due("CLOSED", x.told(4), 32);
    }

    private static void beatCoal() {
        E.sentence("11: COAL, 1 if the LIGHT is 1 to 8, 2 if it is more, 0 in the dark");
        for (int note = -1; note < 24; note++) {
            SongLamps x = new SongLamps();
            x.voice(0, 0, 23, 9, 6);
            x.voice(1, 0, 23, 9, 6);
            x.voice(2, 0, 23, 9, 2);
            x.gallery(6, 2, false);
            int acts = Check.act(x, note < 0 ? "." : "A" + letter(note) + ".");
            E.due("acts", acts, note < 0 ? 1 : 2);
            int light = note + 1;
            E.due("COAL by LIGHT " + light, x.told(161), light == 0 ? 0 : light <= 8 ? 1 : 2);
            E.due("COAL by an ECHO of " + light, x.told(121), light / 2 == 0 ? 0 : light / 2 <= 8 ? 1 : 2);
        }
    }

    private static void beatCoalOfMany() {
        E.sentence("11: in each GALLERY each VOICE that is silent cuts COAL");
        SongLamps x = new SongLamps();
        for (int v = 0; v < 8; v++) {
            x.voice(v, 0, 23, v, 9);
        }
        Check.act(x, "Hi.");
        E.due("seven cut, one sings", x.told(191), 14);
        Check.act(x, "HhGa.");
        E.due("six cut, two sing", x.told(191), 20);
        Check.act(x, "H-G-.");
        E.due("none in the dark", x.told(191), 20);
        Check.act(x, "*9Ha.");
        E.due("a fall is no matter", x.told(191), 27);
        x.gallery(9, 9, true);
        Check.act(x, "Gd.");
        E.due("dark by firedamp", x.told(191), 27);
        E.due("BREATH goes all the same", x.told(72), 5);
        E.due("none elsewhere", x.then(2), 27);
    }

    private static void beatLightAhead() {
        E.sentence("11: by LIGHT ahead of it; then each that SINGS has BREATH 1 less, and is silent if it has none left");
        SongLamps x = new SongLamps();
        x.voice(0, 0, 23, 1, 5);
        x.voice(1, 0, 23, 9, 5);
        Check.act(x, "Ax.");
        E.due("COAL by the last of it", x.told(151), 2);
        E.due("it has none left", x.told(12), 0);
        E.due("it is silent", x.told(15), NONE);
        E.due("dark", x.light(5), 0);
        Check.act(x, ".");
        E.due("no COAL in the dark", x.told(151), 2);
        E.due("it has 1 more", x.told(12), 1);
    }

    private static void beatBreath() {
        E.sentence("11: BREATH 1 less, and is silent if it has none left");
        SongLamps x = new SongLamps();
        x.voice(0, 0, 23, 99, 0);
        Check.act(x, "Aa" + ".".repeat(58));
        E.due("41 left", x.told(12), 41);
        Check.act(x, ".".repeat(40));
        E.due("1 left", x.told(12), 1);
        E.due("it sings", x.told(15), 0);
        Check.act(x, ".");
        E.due("0 left", x.told(12), 0);
        E.due("it is silent", x.told(15), NONE);
    }

    private static void beatBreathBack() {
        E.sentence("11: each that was silent has 1 more, LUNGS at the most");
        SongLamps x = new SongLamps();
        x.voice(0, 0, 23, 3, 0);
        x.voice(1, 0, 23, 0, 0);
        x.breath(0, 0);
        for (int beat = 1; beat <= 5; beat++) {
            Check.act(x, ".");
            E.due("behind beat " + beat, x.told(12), Math.min(3, beat));
            E.due("who has no LUNGS", x.told(22), 0);
        }
        E.due("it sings", Check.act(x, "Aa.A-."), 4);
        E.due("one less, one more", x.told(12), 3);
        x.breath(0, 2);
        E.due("a beat to LUNGS, and one more", Check.act(x, ".."), 2);
        E.due("LUNGS", x.told(12), 3);
        E.due("a beat in song has none more", Check.act(x, "Aa..."), 4);
        E.due("none left, and none more yet", x.told(12), 0);
    }

    private static void beatCount() {
        E.sentence("14: the beat: a beat is one more");
        SongLamps x = new SongLamps();
        for (int n = 0; n <= 60; n += 12) {
            Check.write(x, ".".repeat(n));
            E.due("behind " + n, x.then(1), n);
            E.due("now", x.told(3), 0);
        }
        E.due("sixty", x.done(), 60);
        E.due("now", x.told(3), 60);
        Check.write(x, "*0*1.*2");
        E.due("beats alone count", x.then(1), 61);
    }

    private static void lightOfNotes() {
        E.sentence("15: LIGHT of a GALLERY: 1 and the highest NOTE that is SUNG in it, 0 if none is");
        for (int note = 0; note < 24; note++) {
            SongLamps x = new SongLamps();
            x.voice(0, 0, 23, 9, 9);
            x.voice(7, 0, 23, 9, 9);
            E.due("none is", x.light(9), 0);
            Check.act(x, "A" + letter(note));
            E.due("one", x.light(9), note + 1);
            Check.act(x, "Ha");
            E.due("a lower one", x.light(9), note + 1);
            Check.act(x, "Hx");
            E.due("a higher one", x.light(9), 24);
            Check.act(x, "H-");
            E.due("no more", x.light(9), note + 1);
            for (int g = 0; g < 9; g++) {
                E.due("elsewhere", x.light(g), 0);
            }
        }
    }

    private static void lightInGas() {
        E.sentence("15: in GAS no NOTES count of which two are SUNG there that differ by 3 or by 4");
        for (int a = 0; a < 24; a++) {
            for (int b = 0; b < 24; b++) {
                SongLamps x = new SongLamps();
                x.voice(0, 0, 23, 9, 0);
                x.voice(1, 0, 23, 9, 0);
                x.voice(2, 0, 23, 9, 1);
                x.gallery(0, 0, true);
                x.gallery(1, 1, true);
                Check.act(x, "A" + letter(a) + "B" + letter(b) + "Ca");
                int apart = a > b ? a - b : b - a;
                boolean out = apart == 3 || apart == 4;
                E.due(a + " and " + b, x.light(0), out ? 0 : 1 + (a > b ? a : b));
                E.due("one alone in GAS", x.light(1), 1);
                x.gallery(0, 0, false);
                E.due("not in GAS", x.light(0), 1 + (a > b ? a : b));
            }
        }
        SongLamps x = new SongLamps();
        x.gallery(0, 0, true);
        for (int v = 0; v < 8; v++) {
            x.voice(v, 0, 23, 9, 0);
        }
        Check.act(x, "AaBhCiDpEqFxGbHj");
        E.due("eight, of which none differ by 3 or 4", x.light(0), 24);
        Check.act(x, "Hm");
        E.due("C, D, E and H are out", x.light(0), 24);
        Check.act(x, "F-");
        E.due("B is the highest that counts", x.light(0), 8);
        Check.act(x, "Ce");
        E.due("A, B, G are out by C, which is out by them", x.light(0), 0);
        Check.act(x, "B-A-");
        E.due("G is out by C alone", x.light(0), 0);
        Check.act(x, "Gc");
        E.due("by 2 they count", x.light(0), 5);
    }

    private static void lightOfEchoes() {
        E.sentence("15: Or half, cut, of what it is so (ECHOES not counted) in a GALLERY whose ECHO it is, if that is"
                + " more (the most of these)");
        for (int note = 0; note < 24; note++) {
            SongLamps x = new SongLamps();
            x.voice(0, 0, 23, 9, 0);
            x.voice(1, 0, 23, 9, 9);
            x.voice(2, 0, 23, 9, 5);
            x.gallery(0, 9, false);
            x.gallery(9, 4, false);
            x.gallery(5, 9, false);
            Check.act(x, "A" + letter(note));
            E.due("half, cut", x.light(9), (note + 1) / 2);
            E.due("its own", x.light(0), note + 1);
            E.due("no ECHO of an ECHO", x.light(4), 0);
            Check.act(x, "Bf");
            E.due("if that is more", x.light(9), Math.max(6, (note + 1) / 2));
            E.due("ECHOES not counted", x.light(4), 3);
            Check.act(x, "Ct");
            E.due("the most of these", x.light(9), Math.max(10, (note + 1) / 2));
            x.gallery(0, 0, false);
            E.due("none of itself", x.light(0), note + 1);
        }
        SongLamps x = new SongLamps();
        x.voice(0, 0, 23, 9, 0);
        x.gallery(0, 1, false);
        x.gallery(1, 0, false);
        Check.act(x, "Ax");
        E.due("one to the other", x.light(1), 12);
        E.due("and not back", x.light(0), 24);
        x.voice(1, 0, 23, 9, 0);
        x.gallery(0, 1, true);
        Check.act(x, "Bt");
        E.due("what firedamp takes out has no ECHO", x.light(1), 0);
    }

    private static void lightBurns() {
        E.sentence("14, 31: A lamp burns, where it is above 0");
        SongLamps x = new SongLamps();
        x.voice(0, 0, 23, 9, 0);
        x.gallery(0, 9, false);
        E.due("none", x.told(2), 0);
        Check.act(x, "Aa");
        E.due("LIGHT 1, half of it is 0", x.told(2), 1);
        Check.act(x, "Ab");
        E.due("LIGHT 2, half of it is 1", x.told(2), 513);
        Check.act(x, "*0*9");
        E.due("falls are no matter", x.told(2), 513);
        x.gallery(0, 9, true);
        E.due("firedamp is none for one", x.told(2), 513);
        for (int g = 1; g < 8; g++) {
            x.voice(g, 0, 23, 9, g + 1);
        }
        x.gallery(0, 1, false);
        x.gallery(8, 9, false);
        Check.act(x, "BaCaDaEaFaGaHx");
        E.due("all of them", x.told(2), 1023);
        E.due("all of them", x.then(0), 1023);
    }

    private static void shakesByOne() {
        E.sentence("16: GALLERIES in which two NOTES are SUNG now that differ by 1, as bits");
        for (int a = 0; a < 24; a++) {
            for (int b = 0; b < 24; b++) {
                SongLamps x = new SongLamps();
                x.passage(9, 0, true);
                x.voice(0, 0, 23, 9, 9);
                x.voice(7, 0, 23, 9, 9);
                x.voice(3, 0, 23, 9, 9);
                Check.act(x, "A" + letter(a) + "H" + letter(b));
                boolean beat = a - b == 1 || b - a == 1;
                E.due(a + " and " + b, x.shakes(), beat ? 512 : 0);
                Check.act(x, "H>0");
                E.due("not in one GALLERY", x.shakes(), 0);
                Check.act(x, "A>0");
                E.due("in GALLERY 0", x.shakes(), beat ? 1 : 0);
                Check.act(x, "H-");
                E.due("one is silent", x.shakes(), 0);
            }
        }
        SongLamps x = new SongLamps();
        for (int v = 0; v < 8; v++) {
            x.voice(v, 0, 23, 9, 5 + v / 2);
        }
        E.due("nobody sings", x.shakes(), 0);
        Check.act(x, "AaBbCcDdEwFxGkHl");
        E.due("four at once", x.shakes(), 480);
        Check.act(x, "*5*6");
        x.gallery(7, 7, true);
        E.due("falls and firedamp are no matter", x.shakes(), 480);
    }
}
