/** Promises 10 to 16: shifts judged, done, behind; light and shakes. */
final class ShiftsTest {
    private static final Check C = new Check("ShiftsTest");

    public static void main(String[] args) {
        reasons();
        leastReasons();
        refusals();
        doneAct();
        beats();
        behind();
        darkFirst();
        light();
        gas();
        shakes();
        C.end();
    }

    /** 0 - 1 - 2; A sings 5 to 10 in 0, B anything in 0, C has no lungs in 1. */
    private static SongLamps made() {
        SongLamps x = new SongLamps();
        x.passage(0, 1, true);
        x.passage(1, 2, true);
        x.voice(0, 5, 10, 4, 0);
        x.voice(1, 0, 23, 3, 0);
        x.voice(2, 7, 7, 0, 1);
        return x;
    }

    private static void judged(SongLamps x, String text, int act, int why) {
        Check.write(x, text);
        C.due("judge(0) of " + text, x.judge(0), act);
        C.due("judge(1) of " + text, x.judge(1), why);
    }

    private static void reasons() {
        SongLamps x = made();
        judged(x, "", -6, -6);
        judged(x, "Af", -6, -6);
        judged(x, "Ak", -6, -6);
        judged(x, "Ae", 0, 2);
        judged(x, "Al", 0, 2);
        judged(x, "Da", 0, 1);
        judged(x, "D-", 0, 1);
        judged(x, "D>1", 0, 1);
        judged(x, ".AfAf", 2, 3);
        judged(x, "AfAgAf", -6, -6);
        judged(x, "A-", 0, 3);
        judged(x, "AfA-A-", 2, 3);
        judged(x, "Ch", 0, 4);
        judged(x, "A>2", 0, 5);
        judged(x, "A>0", 0, 5);
        judged(x, "A>1A>2A>1A>0", -6, -6);
        judged(x, "*0A>1", 1, 6);
        judged(x, "*1A>1", 1, 6);
        judged(x, "*1*1A>1", -6, -6);
        judged(x, "*2A>1", -6, -6);
        judged(x, "Af..A-Af", -6, -6);
        C.due("nothing is done", x.told(3), 0);
        C.due("the pad stays", x.told(0), 8);
    }

    private static void leastReasons() {
        SongLamps x = made();
        judged(x, "Ca", 0, 2);
        judged(x, "*0*2A>2", 2, 5);
        judged(x, "D>9*0", 0, 1);
        judged(x, "Af....Ag", 5, 4);
        judged(x, "Af....A-", 5, 3);
        judged(x, "Af....Ae", 5, 2);
        judged(x, "Af....", -6, -6);
        judged(x, "A>1BbB>1*1A>0", 4, 6);
    }

    private static void refusals() {
        SongLamps x = made();
        C.due("judge(-1)", x.judge(-1), -2);
        C.due("judge(2)", x.judge(2), -2);
        for (String text : new String[] {"A", "AfAf"}) {
            Check.write(x, text);
            String ahead = Check.all(x);
            C.due("judge(2) of " + text, x.judge(2), -2);
            C.due("judge(0) of " + text, x.judge(0), text.length() == 1 ? -5 : 1);
            C.due("done() of " + text, x.done(), -5);
            C.due("behind(3, 0) of " + text, x.behind(3, 0), -1);
            C.due("behind(8, 9) of " + text, x.behind(8, 9), -1);
            C.due("behind(-1, 0) of " + text, x.behind(-1, 0), -1);
            C.due("behind(0, 3) of " + text, x.behind(0, 3), -2);
            C.due("behind(0, -1) of " + text, x.behind(0, -1), -2);
            C.due("seam(10, 2) of " + text, x.seam(10, 2), -1);
            C.due("seam(-1, 0) of " + text, x.seam(-1, 0), -1);
            C.due("seam(0, 2) of " + text, x.seam(0, 2), -2);
            C.due("seam(0, -1) of " + text, x.seam(0, -1), -2);
            C.due("then(5) of " + text, x.then(5), -2);
            C.due("then(-1) of " + text, x.then(-1), -2);
            for (int what = 0; what < 5; what++) {
                C.due("behind of " + text, x.behind(0, what % 3), -5);
                C.due("seam of " + text, x.seam(0, what % 2), -5);
                C.due("then of " + text, x.then(what), -5);
            }
            C.same("nothing changed by " + text, Check.all(x), ahead);
        }
    }

    private static void doneAct() {
        SongLamps x = made();
        C.due("done() of nothing", x.done(), 0);
        C.due("done()", Check.act(x, "AhB>1*2."), 4);
        C.due("signs", x.told(0), 0);
        C.due("A sings", x.told(15), 7);
        C.due("B went", x.told(24), 1);
        C.due("CLOSED", x.told(4), 4);
        C.due("the beat", x.told(3), 1);
        C.due("done() again", x.done(), 0);
        C.due("the beat stays", x.told(3), 1);
        C.due("a fall is no more", Check.act(x, "*2"), 1);
        C.due("CLOSED", x.told(4), 0);
        C.due("one walks singing", Check.act(x, "A>1"), 1);
        C.due("and its light with it", x.light(1), 8);
        C.due("the old lamp is out", x.light(0), 0);
    }

    private static void beats() {
        SongLamps x = made();
        Check.act(x, "Ah.");
        C.due("coal by a light of 8", x.told(101), 1);
        Check.act(x, "Ai.");
        C.due("coal by a light of 9", x.told(101), 3);
        C.due("A has spent two", x.told(12), 2);
        Check.act(x, "A-.");
        C.due("no coal in the dark", x.told(101), 3);
        C.due("A has one more", x.told(12), 3);
        Check.act(x, "..");
        C.due("lungs at the most", x.told(12), 4);
        Check.act(x, "Bx...");
        C.due("B cut nothing, A did by its light", x.told(101), 9);
        C.due("B has none left", x.told(22), 0);
        C.due("and is silent", x.told(25), -6);
        C.due("in the dark", x.light(0), 0);
        Check.act(x, ".");
        C.due("B breathes again", x.told(22), 1);
        C.due("who has no lungs has none", x.told(32), 0);
        x.gallery(0, 1, false);
        C.due("an echo lights a lamp nobody sings at", Check.act(x, "Ak."), 2);
        C.due("C cuts by it", x.told(111), 1);
        C.due("all silent ones cut", x.told(101), 11);
        C.due("coal in all", x.then(2), 12);
    }

    private static void behind() {
        SongLamps x = made();
        Check.act(x, "Bx.B-");
        Check.write(x, "AkB>1.A>1");
        C.due("NOTE", x.behind(0, 0), 10);
        C.due("BREATH", x.behind(0, 1), 3);
        C.due("GALLERY", x.behind(0, 2), 1);
        C.due("NOTE of a silent one", x.behind(1, 0), -6);
        C.due("BREATH of a silent one", x.behind(1, 1), 3);
        C.due("LIGHT", x.seam(1, 0), 11);
        C.due("LIGHT", x.seam(0, 0), 0);
        C.due("COAL", x.seam(0, 1), 2);
        C.due("COAL", x.seam(1, 1), 0);
        C.due("lamps", x.then(0), 2);
        C.due("the beat", x.then(1), 2);
        C.due("COAL in all", x.then(2), 2);
        C.due("the act", x.then(3), 3);
        C.due("the gallery", x.then(4), 0);
        C.due("nothing is done: the beat", x.told(3), 1);
        C.due("nothing is done: the light", x.light(0), 0);
    }

    private static void darkFirst() {
        SongLamps x = made();
        x.voice(3, 0, 23, 1, 9);
        C.due("no lamp went out", Check.write(x, "AfBgA-").then(3), -6);
        C.due("no lamp went out", x.then(4), -6);
        Check.write(x, "DbBc...D-");
        C.due("that can not be", x.then(3), -5);
        Check.write(x, "DbBc...");
        C.due("by a beat", x.then(3), 2);
        C.due("the gallery", x.then(4), 9);
        Check.act(x, "B>1AfBb");
        Check.write(x, "*9.A>1");
        C.due("by going", x.then(3), 2);
        C.due("from here", x.then(4), 0);
        x.gallery(0, 7, false);
        C.due("two lamps at once: the least", Check.write(x, "..A-").then(3), 2);
        C.due("two lamps at once: the least", x.then(4), 0);
        Check.act(x, "A-B-");
        x.gallery(1, 0, false);
        C.due("an echo's lamp too", Check.write(x, ".BaBbBa").then(3), 3);
        C.due("an echo's lamp too", x.then(4), 0);
    }

    private static void light() {
        SongLamps x = made();
        C.due("light(10)", x.light(10), -1);
        C.due("light(-1)", x.light(-1), -1);
        Check.act(x, "Ba");
        C.due("note 0", x.light(0), 1);
        Check.act(x, "AjBx");
        C.due("the highest note", x.light(0), 24);
        x.gallery(0, 5, false);
        C.due("half of it", x.light(5), 12);
        x.gallery(5, 6, false);
        C.due("no echo of an echo", x.light(6), 0);
        Check.act(x, "B>1");
        C.due("half, cut", x.light(5), 5);
        x.gallery(1, 5, false);
        C.due("the most of these", x.light(5), 12);
        C.due("lamps", x.told(2), 35);
        x.gallery(1, 0, false);
        C.due("an echo that is more", x.light(0), 12);
        C.due("ECHOES not counted", x.light(5), 5);
        Check.act(x, "Ba");
        C.due("an echo that is less", x.light(0), 10);
        Check.act(x, "*0*5");
        C.due("falls are no matter", x.light(5), 5);
    }

    private static void gas() {
        for (int a = 0; a < 24; a++) {
            for (int b = 0; b < 24; b++) {
                SongLamps x = new SongLamps();
                x.gallery(4, 2, true);
                x.voice(0, 0, 23, 9, 4);
                x.voice(7, 0, 23, 9, 4);
                Check.act(x, "A" + (char) ('a' + a) + "H" + (char) ('a' + b));
                int apart = Math.abs(a - b);
                int due = apart == 3 || apart == 4 ? 0 : 1 + Math.max(a, b);
                C.due("light of " + a + " and " + b, x.light(4), due);
                C.due("echo of " + a + " and " + b, x.light(2), due / 2);
                x.gallery(4, 4, false);
                C.due("without gas", x.light(4), 1 + Math.max(a, b));
            }
        }
        SongLamps x = new SongLamps();
        x.gallery(4, 4, true);
        for (int v = 0; v < 4; v++) {
            x.voice(v, 0, 23, 9, 4);
        }
        Check.act(x, "AjBmCb");
        C.due("the third takes out none but its own", x.light(4), 2);
        Check.act(x, "Dm");
        C.due("twice the same", x.light(4), 2);
        Check.act(x, "A-");
        C.due("without the third", x.light(4), 13);
        x.voice(0, 0, 23, 9, 5);
        Check.act(x, "Aj");
        C.due("another gallery", x.light(4), 13);
    }

    private static void shakes() {
        SongLamps x = made();
        x.voice(3, 0, 23, 9, 9);
        x.voice(4, 0, 23, 9, 9);
        C.due("nobody sings", x.shakes(), 0);
        Check.act(x, "AfBg");
        C.due("differ by 1", x.shakes(), 1);
        Check.act(x, "DxEw");
        C.due("two galleries", x.shakes(), 513);
        x.gallery(9, 9, true);
        C.due("gas is no matter", x.shakes(), 513);
        Check.act(x, "Bh");
        C.due("differ by 2", x.shakes(), 512);
        Check.act(x, "Bf");
        C.due("the same", x.shakes(), 512);
        Check.act(x, "Be");
        C.due("the first one higher", x.shakes(), 513);
        Check.act(x, "B>1");
        C.due("not together", x.shakes(), 512);
        x.leave(4);
        C.due("gone", x.shakes(), 0);
    }
}
