/** The edges of promises 1 to 9, a sentence at a time. */
final class GalleriesEdgesTest {
    private static final Edge E = new Edge("GalleriesEdgesTest");
    private static final int NONE = -6, UNKNOWN = -1, OUTSIDE = -2, STATE = -3, FULL = -4;

    public static void main(String[] args) {
        dark();
        nobody();
        ofItsOwn();
        passagesNone();
        passagesAll();
        passagesBothWays();
        passageAlsoOne();
        galleryEcho();
        galleryGas();
        galleryKeepsTheRest();
        voiceNotes();
        voiceLungs();
        voiceCount();
        voiceAnew();
        breathRange();
        breathNought();
        breathWas();
        leaveCount();
        leaveWasNot();
        leaveIsNoMore();
        sayCodes();
        saySixty();
        wipe();
        wipedSigns();
        faultEachSign();
        faultMore();
        faultFirst();
        faultNone();
        E.end();
    }

    private static void dark() {
        E.sentence("1: It is dark");
        SongLamps x = new SongLamps();
        E.due("lamps", x.told(2), 0);
        for (int g = 0; g < 10; g++) {
            E.due("light(" + g + ")", x.light(g), 0);
            E.due("seam(" + g + ", 0)", x.seam(g, 0), 0);
            E.due("COAL of " + g, x.told(101 + 10 * g), 0);
            E.due("seam(" + g + ", 1)", x.seam(g, 1), 0);
            E.due("ECHO of " + g + " is itself", x.told(100 + 10 * g), g);
            E.due("PASSAGES of " + g, x.told(102 + 10 * g), 0);
        }
        E.due("the beat", x.told(3), 0);
        E.due("then(1)", x.then(1), 0);
        E.due("CLOSED", x.told(4), 0);
        E.due("GAS", x.told(5), 0);
    }

    private static void nobody() {
        E.sentence("1: nobody is there");
        SongLamps x = new SongLamps();
        E.due("VOICES", x.told(1), 0);
        E.due("signs", x.told(0), 0);
        E.due("wipe()", x.wipe(), 0);
        E.due("SIGHTS", x.told(6), 0);
        E.due("forget()", x.forget(), 0);
        E.due("fault()", x.fault(), NONE);
        E.due("done()", x.done(), 0);
        E.due("shakes()", x.shakes(), 0);
        E.due("keep(0)", x.keep(0), 0);
        E.due("cut()", x.cut(), 0);
        E.due("restore(0)", x.restore(0), STATE);
        E.due("restore(1)", x.restore(1), STATE);
    }

    private static void ofItsOwn() {
        E.sentence("1: a new object, whatever was done with another one");
        SongLamps other = Scene.CROWDED.made();
        E.same("a new one", Scene.seen(new SongLamps(), 0), Scene.EMPTY.seenAhead(0));
        E.same("the other one", Scene.seen(other, 0), Scene.CROWDED.seenAhead(0));
    }

    private static void passagesNone() {
        E.sentence("2: PASSAGES lead between two of them (none at first): or none: how many there are");
        SongLamps x = new SongLamps();
        for (int a = 0; a < 10; a++) {
            for (int b = 0; b < 10; b++) {
                E.due("passage(" + a + ", " + b + ", false)", x.passage(a, b, false), a == b ? UNKNOWN : 0);
            }
        }
        E.due("the first", x.passage(0, 9, true), 1);
        E.due("it is there already", x.passage(0, 9, true), 1);
        E.due("it is there already, from the other end", x.passage(9, 0, true), 1);
        E.due("it is no more", x.passage(9, 0, false), 0);
        E.due("it is no more already", x.passage(0, 9, false), 0);
    }

    private static void passagesAll() {
        E.sentence("2: how many there are, up to all of them");
        SongLamps x = new SongLamps();
        int count = 0;
        for (int a = 0; a < 10; a++) {
            for (int b = 0; b < a; b++) {
                count++;
                E.due("passage(" + a + ", " + b + ", true)", x.passage(a, b, true), count);
            }
        }
        for (int g = 0; g < 10; g++) {
            E.due("PASSAGES of " + g, x.told(102 + 10 * g), 1023 - (1 << g));
        }
        for (int a = 0; a < 10; a++) {
            for (int b = 0; b < a; b++) {
                count--;
                E.due("passage(" + b + ", " + a + ", false)", x.passage(b, a, false), count);
            }
        }
        E.due("none are left", count, 0);
    }

    private static void passagesBothWays() {
        E.sentence("2: between two of them, both ways");
        for (int a = 0; a < 10; a++) {
            for (int b = 0; b < 10; b++) {
                if (a != b) {
                    bothWays(a, b);
                }
            }
        }
    }

    private static void bothWays(int a, int b) {
        SongLamps x = new SongLamps();
        x.passage(a, b, true);
        for (int g = 0; g < 10; g++) {
            E.due("PASSAGES of " + g, x.told(102 + 10 * g), g == a ? 1 << b : g == b ? 1 << a : 0);
        }
        x.voice(7, 0, 0, 0, a);
        E.due("there", Check.act(x, "H>" + b), 1);
        E.due("and back", Check.act(x, "H>" + a), 1);
        x.passage(b, a, false);
        E.due("none of " + a, x.told(102 + 10 * a), 0);
        E.due("none of " + b, x.told(102 + 10 * b), 0);
        E.due("there no more", Check.act(x, "H>" + b), -5);
    }

    private static void passageAlsoOne() {
        E.sentence("2: UNKNOWN: both, also one");
        for (int g = 0; g < 10; g++) {
            int one = g;
            for (Scene scene : new Scene[] {Scene.EMPTY, Scene.BUSY}) {
                E.refused("passage(" + g + ", " + g + ", true)", scene, x -> x.passage(one, one, true), UNKNOWN);
                E.refused("passage(" + g + ", " + g + ", false)", scene, x -> x.passage(one, one, false), UNKNOWN);
            }
        }
        E.refused("passage(10, 10, true)", Scene.BUSY, x -> x.passage(10, 10, true), UNKNOWN);
        E.refused("passage(-1, -1, false)", Scene.BUSY, x -> x.passage(-1, -1, false), UNKNOWN);
        E.refused("passage(-1, 10, false)", Scene.BUSY, x -> x.passage(-1, 10, false), UNKNOWN);
    }

    private static void galleryEcho() {
        E.sentence("3: ECHO of a GALLERY: which ECHO it was (itself, none, at first)");
        SongLamps x = new SongLamps();
        for (int g = 0; g < 10; g++) {
            E.due("at first itself", x.gallery(g, 9 - g, false), g);
            E.due("told", x.told(100 + 10 * g), 9 - g);
            E.due("then that one", x.gallery(g, 9 - g, true), 9 - g);
            E.due("and again", x.gallery(g, g, false), 9 - g);
            E.due("itself anew", x.told(100 + 10 * g), g);
        }
        E.refused("gallery(10, 10, true)", Scene.BUSY, y -> y.gallery(10, 10, true), UNKNOWN);
    }

    private static void galleryGas() {
        E.sentence("3: GAS of a GALLERY (not, at first)");
        SongLamps x = new SongLamps();
        int set = 0;
        for (int g = 0; g < 10; g++) {
            x.gallery(g, 0, true);
            set += 1 << g;
            E.due("GAS up to " + g, x.told(5), set);
        }
        for (int g = 9; g >= 0; g--) {
            x.gallery(g, 0, true);
            E.due("GAS again changes nothing", x.told(5), set);
            x.gallery(g, 0, false);
            set -= 1 << g;
            E.due("GAS no more from " + g, x.told(5), set);
            x.gallery(g, 0, false);
            E.due("no GAS again changes nothing", x.told(5), set);
        }
    }

    private static void galleryKeepsTheRest() {
        E.sentence("3: ECHO, GAS of a GALLERY, and nothing else of it");
        SongLamps x = Scene.BUSY.made();
        E.due("gallery(0, 4, false), as it is", x.gallery(0, 4, false), 4);
        E.due("gallery(3, 5, true), as it is", x.gallery(3, 5, true), 5);
        E.due("gallery(8, 8, false), as it is", x.gallery(8, 8, false), 8);
        E.same("COAL, CLOSED, PASSAGES, VOICES", Scene.seen(x, 0), Scene.BUSY.seenAhead(0));
    }

    private static void voiceNotes() {
        E.sentence("4: NOTES from LOW to HIGH (0 to 23; LOW is HIGH at the most)");
        int[] numbers = {Integer.MIN_VALUE, -2, -1, 0, 1, 11, 12, 22, 23, 24, 25, 256, Integer.MAX_VALUE};
        for (int l : numbers) {
            for (int h : numbers) {
                boolean asTold = l >= 0 && l <= h && h <= 23;
                String call = "voice(7, " + l + ", " + h + ", 5, 9)";
                if (asTold) {
                    SongLamps x = new SongLamps();
                    E.due(call, x.voice(7, l, h, 5, 9), 1);
                    E.due("LOW", x.told(80), l);
                    E.due("HIGH", x.told(81), h);
                } else {
                    E.refused(call, Scene.EMPTY, x -> x.voice(7, l, h, 5, 9), OUTSIDE);
                    E.refused(call, Scene.CROWDED, x -> x.voice(7, l, h, 5, 9), OUTSIDE);
                }
            }
        }
        E.range("voice(0, n, 23, 9, 0)", Scene.BUSY, 0, 23, OUTSIDE, (x, n) -> x.voice(0, n, 23, 9, 0));
        E.range("voice(0, 0, n, 9, 0)", Scene.BUSY, 0, 23, OUTSIDE, (x, n) -> x.voice(0, 0, n, 9, 0));
        E.range("voice(0, n, 11, 9, 0)", Scene.BUSY, 0, 11, OUTSIDE, (x, n) -> x.voice(0, n, 11, 9, 0));
        E.range("voice(0, 12, n, 9, 0)", Scene.BUSY, 12, 23, OUTSIDE, (x, n) -> x.voice(0, 12, n, 9, 0));
    }

    private static void voiceLungs() {
        E.sentence("4: LUNGS (0 to 99); BREATH is LUNGS");
        E.range("voice(0, 0, 23, n, 0)", Scene.EMPTY, 0, 99, OUTSIDE, (x, n) -> x.voice(0, 0, 23, n, 0));
        E.range("voice(0, 0, 23, n, 0)", Scene.CROWDED, 0, 99, OUTSIDE, (x, n) -> x.voice(0, 0, 23, n, 0));
        for (int lungs = 0; lungs <= 99; lungs++) {
            SongLamps x = new SongLamps();
            x.voice(4, 0, 23, lungs, 0);
            E.due("LUNGS", x.told(53), lungs);
            E.due("BREATH", x.told(52), lungs);
            E.due("it can sing, if it has BREATH", Check.act(x, "Ea"), lungs == 0 ? -5 : 1);
        }
    }

    private static void voiceCount() {
        E.sentence("4: A VOICE is there: how many are");
        SongLamps x = new SongLamps();
        for (int v = 7; v >= 0; v--) {
            E.due("voice(" + v + ", ..)", x.voice(v, v, v + 10, v, v), 8 - v);
            E.due("voice(" + v + ", ..) anew", x.voice(v, v, v + 10, v, v), 8 - v);
        }
        E.due("VOICES", x.told(1), 255);
        for (int v = 0; v < 8; v++) {
            int[] due = {v, v + 10, v, v, v, NONE};
            for (int what = 0; what < 6; what++) {
                E.due("told(" + (10 + 10 * v + what) + ")", x.told(10 + 10 * v + what), due[what]);
            }
        }
    }

    private static void voiceAnew() {
        E.sentence("4: (or anew: silent, BREATH is LUNGS)");
        SongLamps x = new SongLamps();
        x.voice(2, 0, 23, 50, 6);
        x.voice(3, 0, 23, 50, 6);
        E.due("both sing", Check.act(x, "CtDc.."), 4);
        E.due("voice(2, 1, 22, 50, 6)", x.voice(2, 1, 22, 50, 6), 2);
        E.due("silent", x.told(35), NONE);
        E.due("BREATH", x.told(32), 50);
        E.due("its light is gone", x.light(6), 3);
        E.due("the other one sings on", x.told(45), 2);
        E.due("the other one's BREATH", x.told(42), 48);
        E.due("voice(2, 1, 22, 10, 5)", x.voice(2, 1, 22, 10, 5), 2);
        E.due("fewer LUNGS", x.told(33), 10);
        E.due("less BREATH", x.told(32), 10);
        E.due("elsewhere", x.told(34), 5);
        E.due("no more than its new LUNGS", x.breath(2, 11), OUTSIDE);
    }

    private static void breathRange() {
        E.sentence("5: OUTSIDE: 0 to LUNGS");
        E.range("breath(1, n), LUNGS 30", Scene.BUSY, 0, 30, OUTSIDE, (x, n) -> x.breath(1, n));
        E.range("breath(2, n), LUNGS 0", Scene.BUSY, 0, 0, OUTSIDE, (x, n) -> x.breath(2, n));
        E.range("breath(5, n), LUNGS 99", Scene.CROWDED, 0, 99, OUTSIDE, (x, n) -> x.breath(5, n));
        E.range("breath(7, n), LUNGS 97", Scene.CROWDED, 0, 97, OUTSIDE, (x, n) -> x.breath(7, n));
    }

    private static void breathNought() {
        E.sentence("5: (0: it is silent then)");
        SongLamps x = Scene.BUSY.made();
        E.due("A sings", x.told(15), 5);
        E.due("breath(0, 4)", x.breath(0, 4), 3);
        E.due("A sings on with all its LUNGS", x.told(15), 5);
        E.due("breath(0, 1)", x.breath(0, 1), 4);
        E.due("A sings on with 1", x.told(15), 5);
        E.due("breath(0, 0)", x.breath(0, 0), 1);
        E.due("A is silent", x.told(15), NONE);
        E.due("B sings on", x.told(25), 6);
        E.due("breath(0, 0) again", x.breath(0, 0), 0);
        E.due("breath(0, 4)", x.breath(0, 4), 0);
        E.due("A is silent all the same", x.told(15), NONE);
    }

    private static void breathWas() {
        E.sentence("5: BREATH of a VOICE: which it was");
        SongLamps x = new SongLamps();
        x.voice(6, 0, 23, 99, 0);
        x.voice(5, 0, 23, 99, 0);
        int was = 99;
        for (int v = 0; v <= 99; v++) {
            E.due("breath(6, " + v + ")", x.breath(6, v), was);
            E.due("told", x.told(72), v);
            was = v;
        }
        E.due("the other one's", x.told(62), 99);
        E.due("a silent one stays so", x.told(75), NONE);
    }

    private static void leaveCount() {
        E.sentence("6: A VOICE is no more: how many are");
        SongLamps x = Scene.CROWDED.made();
        int set = 255;
        int[] order = {3, 0, 7, 1, 6, 2, 5, 4};
        for (int i = 0; i < 8; i++) {
            E.due("leave(" + order[i] + ")", x.leave(order[i]), 7 - i);
            set -= 1 << order[i];
            E.due("VOICES", x.told(1), set);
        }
        E.due("it is dark", x.told(2), 0);
    }

    private static void leaveWasNot() {
        E.sentence("6: UNKNOWN: it was not");
        SongLamps x = new SongLamps();
        x.voice(3, 0, 0, 0, 0);
        for (int v = 0; v < 8; v++) {
            E.due("leave(" + v + ")", x.leave(v), v == 3 ? 0 : UNKNOWN);
        }
        E.due("leave(3) again", x.leave(3), UNKNOWN);
        E.due("anew", x.voice(3, 0, 0, 0, 0), 1);
        E.due("leave(3) anew", x.leave(3), 0);
    }

    private static void leaveIsNoMore() {
        E.sentence("6: A VOICE is no more");
        SongLamps x = Scene.BUSY.made();
        x.wipe();
        E.due("leave(1)", x.leave(1), 4);
        E.due("the light of A alone", x.light(0), 6);
        E.due("nobody beats with A", x.shakes(), 0);
        E.due("breath(1, 0)", x.breath(1, 0), UNKNOWN);
        E.due("behind(1, 0)", x.behind(1, 0), UNKNOWN);
        for (int what = 20; what < 30; what++) {
            E.due("told(" + what + ")", x.told(what), OUTSIDE);
        }
        E.due("leave(0)", x.leave(0), 3);
        E.due("dark", x.light(0), 0);
        E.due("leave(4)", x.leave(4), 2);
        E.due("what firedamp took out is back", x.light(3), 11);
        E.due("anew", x.voice(1, 3, 4, 7, 2), 3);
        int[] due = {3, 4, 7, 7, 2, NONE};
        for (int what = 0; what < 6; what++) {
            E.due("told(" + (20 + what) + ")", x.told(20 + what), due[what]);
        }
        x.leave(1);
        int coal = x.told(121);
        x.voice(0, 0, 23, 9, 2);
        Check.act(x, "Ax.");
        E.due("who is no more cuts nothing", x.told(121), coal);
    }

    private static void sayCodes() {
        E.sentence("7: SIGNS, codes 33 to 126; OUTSIDE");
        for (Scene scene : new Scene[] {Scene.EMPTY, Scene.BUSY, Scene.FAULTY}) {
            E.range("say(n)", scene, 33, 126, OUTSIDE, (x, n) -> x.say(n));
        }
        for (int sign = 33; sign <= 126; sign++) {
            SongLamps x = new SongLamps();
            E.due("say(" + sign + ")", x.say(sign), 1);
            E.due("told(0)", x.told(0), 1);
        }
    }

    private static void saySixty() {
        E.sentence("7: a PAD (60 SIGNS at most): A sign more: how many; FULL");
        SongLamps x = new SongLamps();
        for (int i = 1; i <= 60; i++) {
            E.due("sign " + i, x.say(i % 2 == 1 ? '*' : '9'), i);
        }
        E.due("sign 61", x.say('.'), FULL);
        E.due("sign 61 again", x.say('~'), FULL);
        E.due("told(0)", x.told(0), 60);
        E.due("no FAULT came of it", x.fault(), NONE);
        E.due("wipe()", x.wipe(), 60);
        E.due("there is room anew", x.say('.'), 1);
        for (int i = 2; i <= 60; i++) {
            E.due("sign " + i, x.say('.'), i);
        }
        E.due("sign 61", x.say('.'), FULL);
        E.due("done()", x.done(), 60);
        E.due("there is room anew", x.say('.'), 1);
    }

    private static void wipe() {
        E.sentence("8: Signs go: how many there were");
        SongLamps x = new SongLamps();
        E.due("none", x.wipe(), 0);
        x.say('!');
        E.due("one", x.wipe(), 1);
        E.due("none again", x.wipe(), 0);
        E.due("told(0)", x.told(0), 0);
        E.due("fault()", x.fault(), NONE);
        SongLamps y = Scene.CROWDED.made();
        E.due("sixty", y.wipe(), 60);
        E.due("VOICES stay", y.told(1), 255);
        E.due("SIGHTS stay", y.told(6), 8);
        E.due("the beat stays", y.told(3), 2);
    }

    private static void wipedSigns() {
        E.sentence("8: Signs go; 11: it is empty then: what stood there counts no more");
        SongLamps x = new SongLamps();
        x.voice(0, 0, 23, 9, 0);
        x.passage(0, 1, true);
        String[] texts = {"Aa", "A>1", "*0", "..", "A-A>1"};
        String[] begun = {"A", "A>", "*", "..*", "A-A>"};
        for (int i = 0; i < texts.length; i++) {
            Check.write(x, texts[i]);
            E.due("fault() of " + begun[i] + ", where " + texts[i] + " was", Check.write(x, begun[i]).fault(),
                    begun[i].length());
        }
        Check.write(x, ".".repeat(60));
        E.due("fault() of A, where 60 beats were", Check.write(x, "A").fault(), 1);
        E.due("done()", Check.act(x, "Aa.A>1"), 3);
        x.say('A');
        E.due("fault() of A, where Aa was DONE", x.fault(), 1);
        x.say('b');
        E.due("one act, where three were DONE", x.done(), 1);
    }

    /** Which signs may come where, sign by sign. */
    private static void faultEachSign() {
        E.sentence("9: THE FAULT: the place of the first sign that can not stand there");
        String[] begins = {"", "Aa", "Hx", "C-", "D>7", "*4", "."};
        for (char sign = 33; sign <= 126; sign++) {
            for (String begin : begins) {
                boolean voice = sign >= 'A' && sign <= 'H';
                int due = voice || sign == '*' ? begin.length() + 1 : sign == '.' ? NONE : begin.length();
                faultOf(begin + sign, due);
                for (char who : new char[] {'A', 'D', 'H'}) {
                    boolean deed = sign >= 'a' && sign <= 'x' || sign == '-';
                    int at = begin.length() + 1;
                    faultOf(begin + who + sign, deed ? NONE : sign == '>' ? at + 1 : at);
                    faultOf(begin + who + '>' + sign, sign >= '0' && sign <= '9' ? NONE : at + 1);
                }
                faultOf(begin + '*' + sign, sign >= '0' && sign <= '9' ? NONE : begin.length() + 1);
            }
        }
    }

    private static void faultOf(String text, int due) {
        E.due("fault() of " + text, Check.write(new SongLamps(), text).fault(), due);
    }

    private static void faultMore() {
        E.sentence("9: the number of signs, if more must come");
        for (int length = 0; length < 60; length++) {
            String begin = ".".repeat(length);
            faultOf(begin + "A", length + 1);
            faultOf(begin + "*", length + 1);
            if (length < 59) {
                faultOf(begin + "H>", length + 2);
            }
        }
        String full = ".".repeat(59) + "H";
        SongLamps x = Check.write(new SongLamps(), full);
        E.due("fault() of 60 signs", x.fault(), 60);
        E.due("none can come any more", x.say('a'), FULL);
        E.due("done()", x.done(), -5);
        E.due("the signs stay", x.told(0), 60);
    }

    private static void faultFirst() {
        E.sentence("9: the place (from 0 on) of the first sign");
        faultOf("!", 0);
        faultOf("!!", 0);
        faultOf("!Aa", 0);
        faultOf("A!!", 1);
        faultOf("A>!!", 2);
        faultOf("Aa!A!", 2);
        faultOf("*!.!", 1);
        faultOf(".".repeat(59) + "!", 59);
        faultOf("!" + ".".repeat(59), 0);
        faultOf(".".repeat(30) + "a" + ".".repeat(29), 30);
    }

    private static void faultNone() {
        E.sentence("9: THE FAULT; NONE");
        faultOf("", NONE);
        faultOf(".".repeat(60), NONE);
        faultOf("A>0".repeat(20), NONE);
        faultOf("H-".repeat(30), NONE);
        faultOf("*9".repeat(30), NONE);
        E.due("acts that can not be are none", Scene.STUCK.made().fault(), NONE);
    }
}
