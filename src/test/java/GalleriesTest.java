/** Promises 1 to 9: a new object, galleries, voices, the pad. */
final class GalleriesTest {
    private static final Check C = new Check("GalleriesTest");
    private static final int[] WILD = {-1, 10, Integer.MIN_VALUE, Integer.MAX_VALUE};

    public static void main(String[] args) {
        newObject();
        passage();
        gallery();
        voice();
        breath();
        leave();
        pad();
        fault();
        C.end();
    }

    private static void newObject() {
        SongLamps x = new SongLamps();
        for (int what = 0; what <= 6; what++) {
            C.due("told(" + what + ") of a new one", x.told(what), 0);
        }
        for (int what = 7; what < 100; what++) {
            C.due("told(" + what + ") of a new one", x.told(what), -2);
        }
        for (int g = 0; g < 10; g++) {
            C.due("the echo is itself", x.told(100 + 10 * g), g);
            C.due("no coal", x.told(101 + 10 * g), 0);
            C.due("no passages", x.told(102 + 10 * g), 0);
            C.due("it is dark", x.light(g), 0);
        }
        C.due("losts(-1)", x.losts(-1), 240);
        C.due("restore(0)", x.restore(0), -3);
        C.due("restore(1)", x.restore(1), -3);
    }

    private static void passage() {
        SongLamps x = new SongLamps();
        C.due("passage(0, 9, true)", x.passage(0, 9, true), 1);
        C.due("again, the other way", x.passage(9, 0, true), 1);
        C.due("told(102)", x.told(102), 512);
        C.due("told(192)", x.told(192), 1);
        C.due("passage(3, 4, true)", x.passage(3, 4, true), 2);
        C.due("none there, none now", x.passage(5, 6, false), 2);
        for (int wild : WILD) {
            C.due("passage(wild, 0)", x.passage(wild, 0, true), -1);
            C.due("passage(0, wild)", x.passage(0, wild, false), -1);
        }
        C.due("one is not two", x.passage(4, 4, true), -1);
        C.due("one is not two", x.passage(4, 4, false), -1);
        C.due("told(142)", x.told(142), 8);
        C.due("passage(9, 0, false)", x.passage(9, 0, false), 1);
        C.due("told(102)", x.told(102), 0);
        C.due("told(192)", x.told(192), 0);
        int count = 1;
        for (int a = 0; a < 10; a++) {
            for (int b = a + 1; b < 10; b++) {
                count += a == 3 && b == 4 ? 0 : 1;
                C.due("passages in all", x.passage(b, a, true), count);
            }
        }
        C.due("all of them", count, 45);
    }

    private static void gallery() {
        SongLamps x = new SongLamps();
        C.due("gallery(9, 0, true)", x.gallery(9, 0, true), 9);
        C.due("gallery(9, 4, true)", x.gallery(9, 4, true), 0);
        C.due("gallery(2, 2, true)", x.gallery(2, 2, true), 2);
        C.due("told(5)", x.told(5), 516);
        C.due("told(190)", x.told(190), 4);
        String ahead = Check.all(x);
        for (int wild : WILD) {
            C.due("gallery(wild, 0)", x.gallery(wild, 0, false), -1);
            C.due("gallery(0, wild)", x.gallery(0, wild, true), -1);
        }
        C.same("refused: nothing changed", Check.all(x), ahead);
        C.due("gallery(9, 9, false)", x.gallery(9, 9, false), 4);
        C.due("told(5)", x.told(5), 4);
    }

    private static void voice() {
        SongLamps x = new SongLamps();
        C.due("voice(7, 0, 23, 99, 9)", x.voice(7, 0, 23, 99, 9), 1);
        C.due("voice(0, 4, 4, 0, 0)", x.voice(0, 4, 4, 0, 0), 2);
        C.due("VOICES", x.told(1), 129);
        int[] due = {0, 23, 99, 99, 9, -6};
        for (int i = 0; i < 6; i++) {
            C.due("told(" + (80 + i) + ")", x.told(80 + i), due[i]);
        }
        String ahead = Check.all(x);
        C.due("no such voice", x.voice(8, 0, 0, 0, 0), -1);
        C.due("no such voice", x.voice(-1, 0, 0, 0, 0), -1);
        C.due("no such gallery", x.voice(1, 0, 0, 0, 10), -1);
        C.due("no such gallery", x.voice(1, 0, 0, 0, -1), -1);
        C.due("UNKNOWN stands ahead of OUTSIDE", x.voice(1, 5, 4, 0, 10), -1);
        C.due("low above high", x.voice(1, 5, 4, 0, 0), -2);
        C.due("low", x.voice(1, -1, 4, 0, 0), -2);
        C.due("high", x.voice(1, 5, 24, 0, 0), -2);
        C.due("lungs", x.voice(1, 5, 5, 100, 0), -2);
        C.due("lungs", x.voice(1, 5, 5, -1, 0), -2);
        C.same("refused: nothing changed", Check.all(x), ahead);
        C.due("it sings", Check.act(x, "Hx."), 2);
        C.due("its note", x.told(85), 23);
        C.due("its breath", x.told(82), 98);
        C.due("anew", x.voice(7, 1, 2, 3, 4), 2);
        int[] anew = {1, 2, 3, 3, 4, -6};
        for (int i = 0; i < 6; i++) {
            C.due("told(" + (80 + i) + ") anew", x.told(80 + i), anew[i]);
        }
        C.due("dark anew", x.told(2), 0);
    }

    private static void breath() {
        SongLamps x = new SongLamps();
        x.voice(1, 0, 23, 5, 3);
        C.due("breath(1, 2)", x.breath(1, 2), 5);
        C.due("breath(1, 5)", x.breath(1, 5), 2);
        C.due("above its lungs", x.breath(1, 6), -2);
        C.due("below 0", x.breath(1, -1), -2);
        C.due("who is not there", x.breath(0, 6), -1);
        C.due("nobody", x.breath(8, 0), -1);
        C.due("nobody", x.breath(-1, 0), -1);
        C.due("it sings", Check.act(x, "Bk"), 1);
        C.due("breath(1, 1)", x.breath(1, 1), 5);
        C.due("it sings on", x.told(25), 10);
        C.due("breath(1, 0)", x.breath(1, 0), 1);
        C.due("it is silent then", x.told(25), -6);
        C.due("dark", x.light(3), 0);
        C.due("breath(1, 3)", x.breath(1, 3), 0);
        C.due("and stays so", x.told(25), -6);
    }

    private static void leave() {
        SongLamps x = new SongLamps();
        x.voice(1, 0, 23, 5, 3);
        x.voice(6, 0, 23, 5, 3);
        Check.act(x, "Bk");
        C.due("leave(0)", x.leave(0), -1);
        C.due("leave(8)", x.leave(8), -1);
        C.due("leave(-1)", x.leave(-1), -1);
        C.due("leave(1)", x.leave(1), 1);
        C.due("its lamp is out", x.light(3), 0);
        C.due("leave(1) again", x.leave(1), -1);
        C.due("told(20)", x.told(20), -2);
        C.due("VOICES", x.told(1), 64);
        C.due("leave(6)", x.leave(6), 0);
    }

    private static void pad() {
        SongLamps x = new SongLamps();
        C.due("say(32)", x.say(32), -2);
        C.due("say(127)", x.say(127), -2);
        C.due("say(33)", x.say(33), 1);
        C.due("say(126)", x.say(126), 2);
        C.due("signs", x.told(0), 2);
        C.due("wipe()", x.wipe(), 2);
        C.due("wipe() again", x.wipe(), 0);
        for (int i = 1; i <= 60; i++) {
            C.due("say('.')", x.say('.'), i);
        }
        C.due("one too many", x.say('.'), -4);
        C.due("OUTSIDE stands ahead of FULL", x.say(32), -2);
        C.due("sixty beats", x.done(), 60);
        C.due("the beat", x.told(3), 60);
        C.due("it is empty then", x.told(0), 0);
    }

    private static void fault() {
        SongLamps x = new SongLamps();
        String[] texts = {"", "A", "Aa", "Ax", "Ay", "A>", "A>0", "A>9", "A>:", "A>a", "H-", "I-", "a", "*", "*0",
            "*9", "*/", "*:", "**", ".", "..", ".A", "A-A", "A-a", "AA", "A*", "A.", "A`", "A{", "@a", "-", ">", "0",
            "A>>", "Aa.*3B>4", "Aa.*3B>4!", "Aa.*3B>", "Aa.*3B", "Aa.*", "~", "!"};
        int[] due = {-6, 1, -6, -6, 1, 2, -6, -6, 2, 2, -6, 0, 0, 1, -6,
            -6, 1, 1, 1, -6, -6, 2, 3, 2, 1, 1, 1, 1, 1, 0, 0, 0, 0,
            2, -6, 8, 7, 6, 4, 0, 0};
        for (int i = 0; i < texts.length; i++) {
            C.due("fault() of " + texts[i], Check.write(x, texts[i]).fault(), due[i]);
        }
        StringBuilder sixty = new StringBuilder();
        for (int i = 0; i < 59; i++) {
            sixty.append('.');
        }
        C.due("a full pad from which one is missing", Check.write(x, sixty + "A").fault(), 60);
        C.due("fault() does not wipe", x.told(0), 60);
    }
}
