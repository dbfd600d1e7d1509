/** Promises 23 to 31: the lost one, colds, years, images, told. */
final class LostTest {
    private static final Check C = new Check("LostTest");
    private static final long LOST = SongLamps.LOST;

    public static void main(String[] args) {
        sights();
        losts();
        listen();
        cold();
        year();
        images();
        told();
        C.end();
    }

    private static void sights() {
        SongLamps x = new SongLamps();
        C.due("heard(10, 0)", x.heard(10, 0), -1);
        C.due("heard(-1, 99)", x.heard(-1, 99), -1);
        C.due("heard(0, 24)", x.heard(0, 24), -2);
        C.due("heard(0, -2)", x.heard(0, -2), -2);
        for (int i = 1; i <= 8; i++) {
            C.due("heard(9, -1)", x.heard(9, -1), i);
        }
        C.due("told(6)", x.told(6), 8);
        C.due("the ninth", x.heard(9, -1), -4);
        C.due("OUTSIDE stands ahead of FULL", x.heard(9, 24), -2);
        C.due("UNKNOWN stands ahead of FULL", x.heard(10, 0), -1);
        C.due("forget()", x.forget(), 8);
        C.due("forget() again", x.forget(), 0);
        C.due("heard(9, 23)", x.heard(9, 23), 1);
    }

    private static SongLamps row() {
        SongLamps x = new SongLamps();
        for (int g = 0; g < 9; g++) {
            x.passage(g, g + 1, true);
        }
        return x;
    }

    private static void losts() {
        SongLamps x = row();
        C.due("all", x.losts(-1), 240);
        C.due("the first", x.losts(0), 0);
        C.due("the 25th", x.losts(24), 100);
        C.due("the last", x.losts(239), 923);
        C.due("one more", x.losts(240), -6);
        C.due("losts(-2)", x.losts(-2), -6);
        C.due("losts(least)", x.losts(Integer.MIN_VALUE), -6);
        C.due("losts(most)", x.losts(Integer.MAX_VALUE), -6);
        x.heard(0, 23);
        C.due("no note is above 23", x.losts(-1), 1);
        C.due("it is here", x.losts(0), 23);
        x.forget();
        x.heard(0, 15);
        C.due("nine ways", x.losts(-1), 9);
        C.due("rising", x.losts(8), 823);
        x.heard(9, 12);
        C.due("from both sides", x.losts(-1), 1);
        C.due("from both sides", x.losts(0), 318);
        Check.act(x, "*6");
        C.due("PASSAGES as now", x.losts(-1), 0);
        C.due("none", x.losts(0), -6);
        x.forget();
        x.heard(6, -1);
        C.due("in a closed one one hears nothing", x.losts(-1), 240);
        x.forget();
        x.heard(6, 0);
        C.due("in a closed one one hears nothing", x.losts(-1), 0);
        x.forget();
        x.heard(5, -1);
        C.due("too low, or without a way", x.losts(-1), 5 + 4 + 3 + 2 + 1 + 24 * 4);
        C.due("the lowest", x.losts(4), 4);
        C.due("the next", x.losts(5), 100);
    }

    private static void listen() {
        SongLamps x = new SongLamps();
        C.due("listen(2)", x.listen(2), -2);
        C.due("listen(-1)", x.listen(-1), -2);
        C.due("anywhere", x.listen(0), 0);
        C.due("all but the gallery's own are left", x.listen(1), 216);
        x.heard(0, 5);
        C.due("one alone", x.listen(0), 0);
        C.due("one alone", x.listen(1), 1);
        x.heard(0, 6);
        C.due("none", x.listen(0), -6);
        C.due("none", x.listen(1), -6);
        C.due("listen(2) without any", x.listen(2), -2);
        SongLamps y = row();
        y.heard(4, 9);
        C.due("one in each gallery", y.losts(-1), 10);
        C.due("beside the middle it is this side or that", y.listen(0), 5);
        C.due("five are left either way", y.listen(1), 5);
        Check.act(y, "*0");
        C.due("not in the closed one", y.losts(-1), 9);
        C.due("four to each side, one between", y.listen(0), 6);
        C.due("four to each side, one between", y.listen(1), 4);
    }

    private static void coldIs(SongLamps x, String call, int[] at, long upper, long lower) {
        C.due("cold: " + call + ", upper", x.cold(at[0], at[1], at[2], at[3], 0), upper);
        C.due("cold: " + call + ", lower", x.cold(at[0], at[1], at[2], at[3], 1), lower);
    }

    private static void cold() {
        SongLamps x = new SongLamps();
        C.due("cold(10, 11, 0, 0, 0)", x.cold(10, 11, 0, 0, 0), LOST - 1);
        C.due("cold(-1, 0, 0, 0, 0)", x.cold(-1, 0, 0, 0, 0), LOST - 1);
        int[][] wrong = {{11, 0, 0, 0}, {-1, 0, 0, 0}, {0, 10, 0, 0}, {0, -1, 0, 0}, {0, 0, 2, 0}, {0, 0, -1, 0},
            {0, 0, 0, 2}, {0, 0, 0, -1}};
        for (int[] w : wrong) {
            C.due("cold OUTSIDE", x.cold(0, w[0], w[1], w[2], w[3]), LOST - 2);
        }
        for (int v = 0; v < 8; v++) {
            x.voice(v, 0, 23, 9, 5);
        }
        coldIs(x, "nobody sings", new int[] {5, 3, 9, 0}, 0, 1);
        coldIs(x, "nobody sings", new int[] {5, 3, 9, 1}, 0, 1);
        Check.act(x, "Aa");
        coldIs(x, "one", new int[] {5, 3, 2, 0}, 49, 100);
        coldIs(x, "one, the mean", new int[] {5, 3, 2, 1}, 49, 100);
        coldIs(x, "elsewhere", new int[] {4, 3, 2, 1}, 0, 1);
        coldIs(x, "never", new int[] {5, 0, 9, 0}, 1, 1);
        coldIs(x, "at once", new int[] {5, 10, 1, 0}, 0, 1);
        coldIs(x, "no beat yet", new int[] {5, 10, 0, 0}, 1, 1);
        Check.act(x, "Bb");
        coldIs(x, "two", new int[] {5, 5, 1, 0}, 3, 4);
        coldIs(x, "two, the mean", new int[] {5, 5, 1, 1}, 1, 1);
        coldIs(x, "two, nine beats", new int[] {5, 1, 9, 0}, 624746342703000879L, 1000000000000000000L);
        Check.act(x, "Cc");
        C.due("27 is above 18", x.cold(5, 1, 9, 0, 0), LOST - 3);
        C.due("OUTSIDE stands ahead of STATE", x.cold(5, 1, 9, 0, 2), LOST - 2);
        coldIs(x, "18 is not", new int[] {5, 10, 6, 0}, 0, 1);
        coldIs(x, "the mean is never refused", new int[] {5, 5, 9, 1}, 3, 512);
        Check.act(x, "DdEeFfGgHh");
        C.due("24 is above 18", x.cold(5, 0, 3, 0, 0), LOST - 3);
        coldIs(x, "eight, two beats", new int[] {5, 5, 2, 0}, 65536 - 6561, 65536);
        coldIs(x, "the mean of eight", new int[] {5, 1, 9, 1}, 387420489L, 125000000L);
    }

    private static void year() {
        SongLamps x = new SongLamps();
        int[][] wrong = {{-1, 1, 0}, {10000, 1, 0}, {0, 0, 0}, {0, 100, 0}, {0, 1, 3}, {0, 1, -1}};
        for (int[] w : wrong) {
            C.due("year OUTSIDE", x.year(w[0], w[1], w[2]), -2);
        }
        C.due("nobody", x.year(9999, 99, 0), 0);
        // Of seed 1 the first draw is 149: voice 5, by 18 left over by 8: 2, it sings 2.
        x.voice(5, 2, 2, 9, 1);
        x.gallery(1, 3, false);
        C.due("no coal", x.year(1, 1, 0), 0);
        C.due("its lamp, and its echo's", x.year(1, 1, 1), 2);
        C.due("one voice", x.year(1, 1, 2), 1);
        // Of seed 0 it is 74: voice 2, by 9 left over by 8: 1, it sings 1.
        x.voice(2, 1, 1, 9, 8);
        C.due("seed 0", x.year(0, 1, 2), 1);
        x.leave(2);
        x.voice(5, 3, 3, 9, 1);
        C.due("if that can be", x.year(1, 1, 2), 0);
        for (int v = 0; v < 8; v++) {
            x.voice(v, 0, 23, 9, v);
        }
        for (int g = 0; g < 9; g++) {
            x.passage(g, g + 1, true);
        }
        String ahead = Check.all(x);
        int most = 0;
        for (int seed = 0; seed < 9999; seed += 100) {
            most = Math.max(most, x.year(seed, 99, 2));
        }
        C.due("how many sing, not which", most > 1 && most <= 8 ? 1 : 0, 1);
        C.same("nothing is done in fact", Check.all(x), ahead);
    }

    private static void images() {
        SongLamps x = row();
        C.due("image(-1)", x.image(-1), -2);
        C.due("image(2)", x.image(2), -2);
        C.due("restore(-1)", x.restore(-1), -2);
        C.due("restore(2)", x.restore(2), -2);
        C.due("restore(0)", x.restore(0), -3);
        x.voice(3, 1, 20, 50, 6);
        x.voice(4, 1, 20, 50, 6);
        x.gallery(6, 2, true);
        x.heard(1, 3);
        Check.act(x, "*8Dk.");
        String ahead = Check.all(x);
        C.due("image(1)", x.image(1), 1);
        C.due("restore(0) still", x.restore(0), -3);
        Check.act(x, "*8..D>5E>7");
        x.leave(4);
        x.voice(0, 0, 0, 1, 0);
        x.voice(3, 2, 19, 40, 1);
        x.gallery(6, 6, false);
        x.gallery(7, 0, true);
        x.passage(0, 1, false);
        x.forget();
        x.heard(5, 9);
        x.heard(5, 9);
        C.due("image(0)", x.image(0), 1);
        String behind = Check.all(x);
        C.due("restore(1)", x.restore(1), 1);
        C.same("as it was", Check.all(x), ahead);
        C.due("the sights as they were", x.losts(0), 4);
        x.breath(3, 2);
        C.due("restore(1) again", x.restore(1), 1);
        C.due("its breath as it was again", x.told(42), 49);
        C.due("restore(0)", x.restore(0), 1);
        C.same("the other one", Check.all(x), behind);
        Check.write(x, "A-");
        C.due("restore(1)", x.restore(1), 1);
        C.due("the PAD stays", x.told(0), 2);
        x.wipe();
        C.due("restore(1)", x.restore(1), 1);
        C.due("the PAD stays", x.told(0), 0);
    }

    private static void told() {
        SongLamps x = row();
        x.voice(7, 1, 2, 3, 4);
        int[] wrong = {-1, 7, 8, 9, 10, 15, 75, 76, 86, 89, 90, 95, 99, 103, 109, 193, 199, 200, 1000,
            Integer.MAX_VALUE, Integer.MIN_VALUE};
        for (int what : wrong) {
            C.due("told(" + what + ")", x.told(what), -2);
        }
        Check.act(x, "Hb.*9*0");
        x.heard(0, 0);
        x.gallery(4, 9, true);
        x.say('!');
        int[][] due = {{0, 1}, {1, 128}, {2, 16 + 512}, {3, 1}, {4, 513}, {5, 16}, {6, 1}, {80, 1}, {81, 2}, {82, 2},
            {83, 3}, {84, 4}, {85, 1}, {140, 9}, {141, 0}, {142, 40}, {190, 9}, {192, 256}, {102, 2}};
        for (int[] row : due) {
            C.due("told(" + row[0] + ")", x.told(row[0]), row[1]);
        }
    }
}
