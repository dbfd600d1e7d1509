import java.util.Map;
import java.util.TreeMap;

/** The edges of 'Terms': which numbers are as told, the refusals, their order, and that they change nothing. */
final class TermsEdgesTest {
    private static final Edge E = new Edge("TermsEdgesTest");
    private static final int UNKNOWN = -1, OUTSIDE = -2, STATE = -3, FULL = -4, NO = -5;
    private static final long LOST = -1000000000000000000L;

    public static void main(String[] args) {
        for (Scene scene : Scene.values()) {
            galleries(scene);
            voices(scene);
            whats(scene);
            asking(scene);
        }
        voicesThatAreNotThere();
        unknownFirst();
        outsideSecond();
        noThird();
        stateAndFull();
        refusedFractions();
        fractions();
        E.end();
    }

    private static void galleries(Scene scene) {
        E.sentence("GALLERIES 0 to 9; UNKNOWN -1 (there is no such GALLERY)");
        E.range("passage(n, ..)", scene, 0, 9, UNKNOWN, (x, n) -> x.passage(n, n == 0 ? 1 : 0, true));
        E.range("passage(.., n)", scene, 0, 9, UNKNOWN, (x, n) -> x.passage(n == 9 ? 8 : 9, n, false));
        E.range("gallery(n, ..)", scene, 0, 9, UNKNOWN, (x, n) -> x.gallery(n, 6, true));
        E.range("gallery(.., n, ..)", scene, 0, 9, UNKNOWN, (x, n) -> x.gallery(6, n, true));
        E.range("voice(.., n)", scene, 0, 9, UNKNOWN, (x, n) -> x.voice(0, 1, 2, 3, n));
        E.range("seam(n, 0)", scene, 0, 9, UNKNOWN, (x, n) -> x.seam(n, 0));
        E.range("seam(n, 1)", scene, 0, 9, UNKNOWN, (x, n) -> x.seam(n, 1));
        E.range("light(n)", scene, 0, 9, UNKNOWN, (x, n) -> x.light(n));
        E.range("way(n, 0, 0)", scene, 0, 9, UNKNOWN, (x, n) -> x.way(n, 0, 0));
        E.range("way(0, n, 1)", scene, 0, 9, UNKNOWN, (x, n) -> x.way(0, n, 1));
        E.range("heard(n, 0)", scene, 0, 9, UNKNOWN, (x, n) -> x.heard(n, 0));
        E.range("cold(n, ..)", scene, 0, 9, LOST + UNKNOWN, (x, n) -> x.cold(n, 1, 1, 0, 0));
    }

    private static void voices(Scene scene) {
        E.sentence("VOICES 0 to 7; UNKNOWN -1 (there is no such VOICE)");
        E.range("voice(n, ..)", scene, 0, 7, UNKNOWN, (x, n) -> x.voice(n, 1, 2, 3, 4));
        if (scene == Scene.CROWDED) {
            E.range("breath(n, 0)", scene, 0, 7, UNKNOWN, (x, n) -> x.breath(n, 0));
            E.range("leave(n)", scene, 0, 7, UNKNOWN, (x, n) -> x.leave(n));
            E.range("behind(n, 0)", scene, 0, 7, UNKNOWN, (x, n) -> x.behind(n, 0));
        }
    }

    private static void voicesThatAreNotThere() {
        E.sentence("VOICES 0 to 7 (A to H), none of whom are there at first");
        for (int v = 0; v < 8; v++) {
            int voice = v;
            E.refused("breath(" + v + ", 0)", Scene.EMPTY, x -> x.breath(voice, 0), UNKNOWN);
            E.refused("leave(" + v + ")", Scene.EMPTY, x -> x.leave(voice), UNKNOWN);
            E.refused("behind(" + v + ", 0)", Scene.EMPTY, x -> x.behind(voice, 0), UNKNOWN);
            E.refused("told(" + (10 + 10 * v) + ")", Scene.EMPTY, x -> x.told(10 + 10 * voice), OUTSIDE);
        }
        for (int v = 5; v < 8; v++) {
            int voice = v;
            E.refused("breath(" + v + ", 0)", Scene.BUSY, x -> x.breath(voice, 0), UNKNOWN);
            E.refused("leave(" + v + ")", Scene.BUSY, x -> x.leave(voice), UNKNOWN);
            E.refused("behind(" + v + ", 2)", Scene.BUSY, x -> x.behind(voice, 2), UNKNOWN);
        }
    }

    /** Where a number tells what is asked. */
    private static void whats(Scene scene) {
        E.sentence("OUTSIDE -2 (another number is not as told): what, part, n");
        E.range("judge(n)", scene, 0, 1, OUTSIDE, (x, n) -> x.judge(n));
        E.range("seam(9, n)", scene, 0, 1, OUTSIDE, (x, n) -> x.seam(9, n));
        E.range("then(n)", scene, 0, 4, OUTSIDE, (x, n) -> x.then(n));
        E.range("way(0, 0, n)", scene, 0, 1, OUTSIDE, (x, n) -> x.way(0, 0, n));
        E.range("way(0, 9, n)", scene, 0, 1, OUTSIDE, (x, n) -> x.way(0, 9, n));
        E.range("fewest(1023, n)", scene, 0, 1, OUTSIDE, (x, n) -> x.fewest(1023, n));
        E.range("keep(n)", scene, 0, 1, OUTSIDE, (x, n) -> x.keep(n));
        E.range("hold(111, 0, n)", scene, 0, 1, OUTSIDE, (x, n) -> x.hold(111, 0, n));
        E.range("listen(n)", scene, 0, 1, OUTSIDE, (x, n) -> x.listen(n));
        E.range("cold(0, 1, 1, n, 0)", scene, 0, 1, LOST + OUTSIDE, (x, n) -> x.cold(0, 1, 1, n, 0));
        E.range("cold(0, 1, 1, 0, n)", scene, 0, 1, LOST + OUTSIDE, (x, n) -> x.cold(0, 1, 1, 0, n));
        E.range("cold(0, 1, 1, 1, n)", scene, 0, 1, LOST + OUTSIDE, (x, n) -> x.cold(0, 1, 1, 1, n));
        E.range("year(0, 1, n)", scene, 0, 2, OUTSIDE, (x, n) -> x.year(0, 1, n));
        E.range("image(n)", scene, 0, 1, OUTSIDE, (x, n) -> x.image(n));
        E.range("restore(n)", scene, 0, 1, OUTSIDE, (x, n) -> x.restore(n));
        if (scene != Scene.EMPTY) {
            E.range("behind(0, n)", scene, 0, 2, OUTSIDE, (x, n) -> x.behind(0, n));
        }
    }

    /** Calls that only ask. */
    private static void asking(Scene scene) {
        E.sentence("(As things are now.) ... not being DONE ... Nothing is DONE in fact");
        Map<String, Edge.Call> calls = new TreeMap<>();
        calls.put("fault()", x -> x.fault());
        calls.put("judge(0)", x -> x.judge(0));
        calls.put("judge(1)", x -> x.judge(1));
        calls.put("behind(0, 0)", x -> x.behind(0, 0));
        calls.put("behind(0, 1)", x -> x.behind(0, 1));
        calls.put("behind(0, 2)", x -> x.behind(0, 2));
        calls.put("seam(0, 0)", x -> x.seam(0, 0));
        calls.put("seam(0, 1)", x -> x.seam(0, 1));
        for (int i = 0; i < 5; i++) {
            int what = i;
            calls.put("then(" + i + ")", x -> x.then(what));
        }
        calls.put("light(0)", x -> x.light(0));
        calls.put("shakes()", x -> x.shakes());
        calls.put("way(0, 9, 0)", x -> x.way(0, 9, 0));
        calls.put("way(0, 9, 1)", x -> x.way(0, 9, 1));
        calls.put("fewest(1023, 1)", x -> x.fewest(1023, 1));
        calls.put("keep(1)", x -> x.keep(1));
        calls.put("cut()", x -> x.cut());
        calls.put("hold(345, 789, 0)", x -> x.hold(345, 789, 0));
        calls.put("round(99, 1, 98, 1)", x -> x.round(99, 1, 98, 1));
        calls.put("losts(-1)", x -> x.losts(-1));
        calls.put("losts(0)", x -> x.losts(0));
        calls.put("listen(0)", x -> x.listen(0));
        calls.put("listen(1)", x -> x.listen(1));
        calls.put("cold(0, 1, 9, 0, 0)", x -> x.cold(0, 1, 9, 0, 0));
        calls.put("cold(0, 1, 9, 1, 1)", x -> x.cold(0, 1, 9, 1, 1));
        for (int i = 0; i < 3; i++) {
            int what = i;
            calls.put("year(77, 99, " + i + ")", x -> x.year(77, 99, what));
        }
        calls.put("told(2)", x -> x.told(2));
        calls.forEach((told, call) -> E.changesNothing(told, scene, call));
    }

    private static void unknownFirst() {
        E.sentence("the first of these that fits: UNKNOWN ahead of OUTSIDE, NO, STATE, FULL");
        E.refused("voice(8, 24, -1, 100, 0)", Scene.BUSY, x -> x.voice(8, 24, -1, 100, 0), UNKNOWN);
        E.refused("voice(0, 24, -1, 100, 10)", Scene.BUSY, x -> x.voice(0, 24, -1, 100, 10), UNKNOWN);
        E.refused("breath(5, 100)", Scene.BUSY, x -> x.breath(5, 100), UNKNOWN);
        E.refused("breath(5, -1)", Scene.BUSY, x -> x.breath(5, -1), UNKNOWN);
        for (Scene scene : new Scene[] {Scene.BUSY, Scene.FAULTY, Scene.STUCK}) {
            E.refused("behind(5, 3)", scene, x -> x.behind(5, 3), UNKNOWN);
            E.refused("behind(5, 0)", scene, x -> x.behind(5, 0), UNKNOWN);
            E.refused("seam(10, 2)", scene, x -> x.seam(10, 2), UNKNOWN);
            E.refused("seam(10, 0)", scene, x -> x.seam(10, 0), UNKNOWN);
        }
        E.refused("way(10, 0, 2)", Scene.BUSY, x -> x.way(10, 0, 2), UNKNOWN);
        E.refused("way(0, 10, 2)", Scene.BUSY, x -> x.way(0, 10, 2), UNKNOWN);
        E.refused("heard(10, 24)", Scene.BUSY, x -> x.heard(10, 24), UNKNOWN);
        E.refused("heard(10, 24)", Scene.CROWDED, x -> x.heard(10, 24), UNKNOWN);
        E.refused("heard(10, 0)", Scene.CROWDED, x -> x.heard(10, 0), UNKNOWN);
        E.refused("cold(10, 11, 10, 2, 2)", Scene.BUSY, x -> x.cold(10, 11, 10, 2, 2), LOST + UNKNOWN);
    }

    private static void outsideSecond() {
        E.sentence("the first of these that fits: OUTSIDE ahead of NO, STATE, FULL");
        for (Scene scene : new Scene[] {Scene.FAULTY, Scene.STUCK}) {
            E.refused("judge(2)", scene, x -> x.judge(2), OUTSIDE);
            E.refused("behind(0, 3)", scene, x -> x.behind(0, 3), OUTSIDE);
            E.refused("seam(0, 2)", scene, x -> x.seam(0, 2), OUTSIDE);
            E.refused("then(5)", scene, x -> x.then(5), OUTSIDE);
        }
        E.refused("say(32) where 60 are", Scene.CROWDED, x -> x.say(32), OUTSIDE);
        E.refused("say(127) where 60 are", Scene.CROWDED, x -> x.say(127), OUTSIDE);
        E.refused("heard(0, 24) where 8 are", Scene.CROWDED, x -> x.heard(0, 24), OUTSIDE);
        E.refused("heard(0, -2) where 8 are", Scene.CROWDED, x -> x.heard(0, -2), OUTSIDE);
        E.refused("restore(2)", Scene.EMPTY, x -> x.restore(2), OUTSIDE);
        Edge.Call[] colds = {x -> x.cold(3, 11, 9, 0, 0), x -> x.cold(3, -1, 9, 0, 0), x -> x.cold(3, 1, 9, 0, 2),
            x -> x.cold(3, 1, 9, 0, -1), x -> x.cold(3, 1, 10, 0, 0)};
        for (Edge.Call call : colds) {
            E.refused("three sing nine beats, and a number is not as told", Scene.CROWDED, call, LOST + OUTSIDE);
        }
    }

    private static SongLamps threeSing() {
        SongLamps x = new SongLamps();
        for (int v = 0; v < 3; v++) {
            x.voice(v, 0, 23, 9, 0);
        }
        Check.act(x, "AaBbCc");
        return x;
    }

    private static void noThird() {
        E.sentence("NO -5 (as told): there is a FAULT, or an ACT that can not be");
        E.refused("judge(0)", Scene.FAULTY, x -> x.judge(0), NO);
        E.refused("judge(1)", Scene.FAULTY, x -> x.judge(1), NO);
        E.refused("judge(0) has none where there is no FAULT", Scene.STUCK, x -> x.judge(0), 1);
        E.refused("judge(1) has none where there is no FAULT", Scene.STUCK, x -> x.judge(1), 3);
        for (Scene scene : new Scene[] {Scene.FAULTY, Scene.STUCK}) {
            E.refused("done()", scene, x -> x.done(), NO);
            for (int i = 0; i < 5; i++) {
                int what = i;
                E.refused("then(" + i + ")", scene, x -> x.then(what), NO);
            }
            for (int i = 0; i < 3; i++) {
                int what = i;
                E.refused("behind(4, " + i + ")", scene, x -> x.behind(4, what), NO);
            }
            E.refused("seam(0, 0)", scene, x -> x.seam(0, 0), NO);
            E.refused("seam(9, 1)", scene, x -> x.seam(9, 1), NO);
        }
    }

    private static void stateAndFull() {
        E.sentence("STATE -3 (as told), FULL -4");
        E.refused("restore(0)", Scene.EMPTY, x -> x.restore(0), STATE);
        E.refused("restore(1)", Scene.EMPTY, x -> x.restore(1), STATE);
        E.refused("restore(1)", Scene.BUSY, x -> x.restore(1), STATE);
        for (int n = 7; n <= 9; n++) {
            int beats = n;
            E.refused("cold(3, 1, " + n + ", 0, 0)", Scene.CROWDED, x -> x.cold(3, 1, beats, 0, 0), LOST + STATE);
            E.refused("cold(3, 1, " + n + ", 0, 1)", Scene.CROWDED, x -> x.cold(3, 1, beats, 0, 1), LOST + STATE);
        }
        for (int i = 33; i <= 126; i++) {
            int sign = i;
            E.refused("say(" + i + ")", Scene.CROWDED, x -> x.say(sign), FULL);
        }
        for (int i = -1; i <= 23; i++) {
            int note = i;
            E.refused("heard(" + (i + 1) % 10 + ", " + i + ")", Scene.CROWDED, x -> x.heard((note + 1) % 10, note),
                    FULL);
        }
    }

    private static void refusedFractions() {
        E.sentence("Fractions are ... refused with LOST and the refusal");
        E.due("LOST", SongLamps.LOST, LOST);
        for (int part = 0; part < 2; part++) {
            for (int what = 0; what < 2; what++) {
                E.due("UNKNOWN", threeSing().cold(-1, 0, 0, what, part), -1000000000000000001L);
                E.due("OUTSIDE", threeSing().cold(0, -1, 0, what, part), -1000000000000000002L);
            }
            E.due("STATE", threeSing().cold(0, 1, 9, 0, part), -1000000000000000003L);
        }
    }

    private static void fractions() {
        E.sentence("Fractions are told in lowest terms by part: 0 the upper, 1 the lower number");
        for (int k = 1; k <= 3; k++) {
            for (int t = 0; t <= 10; t++) {
                for (int n = 0; n <= 6; n++) {
                    SongLamps x = threeSing();
                    Check.act(x, k == 1 ? "A-B-" : k == 2 ? "A-" : "");
                    for (int what = 0; what < 2; what++) {
                        long upper = x.cold(0, t, n, what, 0);
                        long lower = x.cold(0, t, n, what, 1);
                        String row = upper + "/" + lower;
                        E.due(row + " is in lowest terms", common(upper, lower), 1);
                        E.due(row + " is no less than 0, over 1 or more", upper >= 0 && lower >= 1 ? 1 : 0, 1);
                    }
                }
            }
        }
    }

    private static long common(long a, long b) {
        return java.math.BigInteger.valueOf(a).gcd(java.math.BigInteger.valueOf(b)).longValue();
    }
}
