import java.util.Random;

/**
 * Drawn runs of calls, on the class and on the model: each answer must be the same. Seeds are fixed. A run has 512
 * calls at the most: what an object answers behind these is free.
 */
final class ModelTest {
    private static final Check C = new Check("ModelTest");
    private static final String SIGNS = "ABCDEFGHabcdefghijklmnopqrstuvwx--->>>***...0123456789";
    private static final int MOST_CALLS = 512;
    private static final int CALLS_AT_THE_END = 203;
    private static final int CALLS_OF_A_SHIFT = 125;
    private static final int[] WILD = {-1, -2, 8, 10, 24, 60, 99, 100, 127, 999, 1000, 1024, 10000,
        Integer.MAX_VALUE, Integer.MIN_VALUE};
    private static Random draw;
    private static SongLamps x;
    private static Model m;
    private static int calls;

    public static void main(String[] args) {
        for (int seed = 0; seed < 2000; seed++) {
            draw = new Random(seed);
            x = new SongLamps();
            m = new Model();
            calls = 0;
            begin();
            // Of some runs nothing is told at the end, so that they go on for longer.
            int end = seed % 2 == 0 ? CALLS_AT_THE_END : 0;
            while (calls <= MOST_CALLS - end - CALLS_OF_A_SHIFT) {
                call(seed);
            }
            for (int what = -1; what < end - 1; what++) {
                due("run " + seed + " told(" + what + ")", x.told(what), m.told(what));
            }
            C.due("calls of run " + seed + " are 512 at the most", calls <= MOST_CALLS ? 1 : 0, 1);
        }
        C.end();
    }

    private static void due(String told, long got, long want) {
        calls++;
        C.due(told, got, want);
    }

    /** Some passages and voices, so that most acts can be. */
    private static void begin() {
        int passages = draw.nextInt(30);
        for (int i = 0; i < passages; i++) {
            int a = draw.nextInt(10);
            int b = draw.nextInt(10);
            due("passage", x.passage(a, b, true), m.passage(a, b, true));
        }
        int dense = 1 + draw.nextInt(10);
        for (int v = 0; v < 8; v++) {
            int low = draw.nextInt(8);
            int high = low + draw.nextInt(16);
            int lungs = draw.nextInt(20);
            int place = draw.nextInt(dense);
            due("voice", x.voice(v, low, high, lungs, place), m.voice(v, low, high, lungs, place));
        }
    }

    /** Mostly as it should be, at times not. */
    private static int number(int low, int high) {
        return draw.nextInt(25) == 0 ? WILD[draw.nextInt(WILD.length)] : low + draw.nextInt(high - low + 1);
    }

    private static void call(int seed) {
        int kind = draw.nextInt(26);
        int a = number(0, 9);
        int b = number(0, 9);
        int v = number(0, 7);
        int what = number(0, 1);
        boolean is = draw.nextInt(3) > 0;
        String told = "run " + seed + ", kind " + kind;
        switch (kind) {
            case 0 -> due(told, x.passage(a, b, is), m.passage(a, b, is));
            case 1 -> due(told, x.gallery(a, b, is), m.gallery(a, b, is));
            case 2 -> {
                int low = number(0, 12);
                int high = number(8, 23);
                due(told, x.voice(v, low, high, 9 * a, b), m.voice(v, low, high, 9 * a, b));
            }
            case 3 -> due(told, x.breath(v, a), m.breath(v, a));
            case 4 -> {
                if (is) {
                    due(told, x.restore(what), m.restore(what));
                } else {
                    due(told, x.leave(v), m.leave(v));
                }
            }
            case 5, 6, 7, 8, 9 -> shift(told);
            case 10 -> due(told, x.light(a), m.light(a));
            case 11 -> due(told, x.shakes(), m.shakes());
            case 12 -> due(told, x.way(a, b, what), m.way(a, b, what));
            case 13 -> {
                int set = number(0, 1023);
                due(told, x.fewest(set, what), m.fewest(set, what));
            }
            case 14 -> due(told, x.keep(what), m.keep(what));
            case 15 -> due(told, x.cut(), m.cut());
            case 16 -> {
                int songs = number(111, 999);
                int rests = number(0, 999);
                due(told, x.hold(songs, rests, what), m.hold(songs, rests, what));
            }
            case 17 -> {
                int p = number(1, 99);
                int q = number(1, 99);
                due(told, x.round(p, a, q, b), m.round(p, a, q, b));
            }
            case 18 -> {
                int note = number(-1, 23);
                due(told, x.heard(a, note), m.heard(a, note));
            }
            case 19 -> {
                if (is) {
                    due(told, x.forget(), m.forget());
                }
                calls++;
            }
            case 20 -> {
                due(told, x.losts(-1), m.losts(-1));
                int i = number(-2, 240);
                due(told, x.losts(i), m.losts(i));
                due(told, x.losts(a), m.losts(a));
            }
            case 21 -> due(told, x.listen(what), m.listen(what));
            case 22 -> {
                int t = number(0, 10);
                int n = number(0, 9);
                int part = number(0, 1);
                due(told, x.cold(a, t, n, what, part), m.cold(a, t, n, what, part));
            }
            case 23 -> {
                int with = number(0, 9999);
                int acts = number(1, 99);
                int of = number(0, 2);
                due(told, x.year(with, acts, of), m.year(with, acts, of));
            }
            case 24 -> due(told, x.image(what), m.image(what));
            default -> {
                int of = number(0, 199);
                due(told, x.told(of), m.told(of));
            }
        }
    }

    private static void shift(String told) {
        if (draw.nextInt(4) > 0) {
            due(told, x.wipe(), m.wipe());
        }
        int acts = draw.nextInt(draw.nextInt(10) == 0 ? 30 : 5);
        for (int i = 0; i < acts; i++) {
            String act = drawnAct();
            for (int j = 0; j < act.length(); j++) {
                due(told + " say", x.say(act.charAt(j)), m.say(act.charAt(j)));
            }
        }
        due(told + " fault", x.fault(), m.fault());
        for (int i = -1; i < 6; i++) {
            int v = number(0, 7);
            int g = number(0, 9);
            due(told + " judge", x.judge(i), m.judge(i));
            due(told + " behind", x.behind(v, i), m.behind(v, i));
            due(told + " seam", x.seam(g, i), m.seam(g, i));
            due(told + " then", x.then(i), m.then(i));
        }
        if (draw.nextInt(4) > 0) {
            due(told + " done", x.done(), m.done());
        }
    }

    private static String drawnAct() {
        String who = "" + (char) ('A' + draw.nextInt(8));
        switch (draw.nextInt(30)) {
            case 0:
                return "" + SIGNS.charAt(draw.nextInt(SIGNS.length()));
            case 1:
                return "" + (char) number(33, 126);
            case 2, 3:
                return who + "-";
            case 4, 5, 6, 7:
                return who + ">" + draw.nextInt(10);
            case 8, 9:
                return "*" + draw.nextInt(10);
            case 10, 11, 12, 13, 14, 15, 16, 17:
                return ".";
            default:
                return who + (char) ('a' + draw.nextInt(24));
        }
    }
}
