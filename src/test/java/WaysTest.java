/** Promises 17 to 22: ways, seams, who sings on, who is cut off, holding a light, rounds. */
final class WaysTest {
    private static final Check C = new Check("WaysTest");

    public static void main(String[] args) {
        way();
        fewest();
        keep();
        cut();
        hold();
        round();
        C.end();
    }

    private static void way() {
        SongLamps x = new SongLamps();
        C.due("way(0, 10, 0)", x.way(0, 10, 0), -1);
        C.due("way(-1, 0, 0)", x.way(-1, 0, 0), -1);
        C.due("UNKNOWN stands ahead of OUTSIDE", x.way(10, 0, 2), -1);
        C.due("way(0, 0, 2)", x.way(0, 0, 2), -2);
        C.due("way(0, 0, -1)", x.way(0, 0, -1), -2);
        C.due("in the dark", x.way(0, 0, 0), -6);
        int[][] pairs = {{0, 3}, {0, 2}, {3, 5}, {2, 5}, {5, 7}, {0, 1}, {1, 7}, {0, 9}};
        for (int[] pair : pairs) {
            x.passage(pair[0], pair[1], true);
        }
        int[] lit = {0, 2, 3, 5, 7};
        for (int v = 0; v < 5; v++) {
            x.voice(v, 0, 23, 99, lit[v]);
        }
        Check.act(x, "AxBxCxDxEx");
        C.due("way(0, 7, 0)", x.way(0, 7, 0), 3);
        C.due("way(0, 7, 1): the least", x.way(0, 7, 1), 2);
        C.due("way(7, 0, 1)", x.way(7, 0, 1), 5);
        C.due("way(0, 0, 0)", x.way(0, 0, 0), 0);
        C.due("way(0, 0, 1)", x.way(0, 0, 1), -6);
        C.due("a dark end", x.way(0, 9, 0), -6);
        C.due("a dark beginning", x.way(9, 0, 1), -6);
        Check.act(x, "*2");
        C.due("another one", x.way(0, 7, 0), 3);
        C.due("round the fall", x.way(0, 7, 1), 3);
        C.due("a closed one to itself", x.way(2, 2, 0), -6);
        x.gallery(0, 1, false);
        C.due("by an echo's lamp", x.way(0, 7, 0), 2);
        C.due("by an echo's lamp", x.way(0, 7, 1), 1);
        Check.act(x, "*7");
        C.due("a closed end", x.way(0, 7, 0), -6);
        C.due("a closed beginning", x.way(7, 0, 1), -6);
    }

    private static void fewest() {
        SongLamps x = new SongLamps();
        C.due("fewest(-1, 0)", x.fewest(-1, 0), -2);
        C.due("fewest(1024, 0)", x.fewest(1024, 0), -2);
        C.due("fewest(0, 2)", x.fewest(0, 2), -2);
        C.due("fewest(0, -1)", x.fewest(0, -1), -2);
        C.due("none", x.fewest(0, 0), 0);
        C.due("none", x.fewest(0, 1), 0);
        C.due("each for itself", x.fewest(1023, 1), 1023);
        for (int g = 0; g < 10; g++) {
            x.gallery(g, g ^ 1, true);
        }
        C.due("in pairs", x.fewest(1023, 0), 5);
        C.due("the least of each", x.fewest(1023, 1), 341);
        C.due("the least lights it too", x.fewest(512, 1), 256);
        C.due("one", x.fewest(3, 0), 1);
        x.gallery(9, 0, false);
        x.gallery(8, 1, false);
        C.due("from outside the set", x.fewest(1, 1), 1);
        C.due("two", x.fewest(513, 0), 1);
        C.due("two", x.fewest(513, 1), 512);
        C.due("three", x.fewest(771, 1), 768);
        C.due("three", x.fewest(771, 0), 2);
    }

    private static void keep() {
        SongLamps x = new SongLamps();
        C.due("keep(2)", x.keep(2), -2);
        C.due("keep(-1)", x.keep(-1), -2);
        C.due("nobody", x.keep(0), 0);
        C.due("nobody", x.keep(1), 0);
        x.gallery(3, 3, true);
        for (int v = 0; v < 8; v++) {
            x.voice(v, 0, 23, 9, v < 6 ? 3 : 4);
        }
        Check.act(x, "AaBdCgDeGaHd");
        C.due("all who sing elsewhere, and the most here", x.keep(0), 4);
        C.due("which: A and C, not B and D", x.keep(1), 1 + 4 + 64 + 128);
        Check.act(x, "C-D-");
        C.due("two differ by 3: the least", x.keep(1), 1 + 64 + 128);
        Check.act(x, "Be");
        C.due("by 4", x.keep(0), 3);
        Check.act(x, "Bf");
        C.due("by 5", x.keep(0), 4);
        Check.act(x, "Bc");
        C.due("by 2", x.keep(1), 3 + 64 + 128);
        x.gallery(4, 4, true);
        C.due("gas there too", x.keep(1), 3 + 64);
    }

    private static void cut() {
        SongLamps x = new SongLamps();
        C.due("nobody", x.cut(), 0);
        for (int v = 0; v < 8; v++) {
            x.voice(v, 0, 23, 9, v);
        }
        C.due("no passages", x.cut(), 254);
        for (int g = 0; g < 7; g++) {
            x.passage(g, g + 1, true);
        }
        C.due("a row", x.cut(), 0);
        Check.act(x, "*3");
        C.due("a fall", x.cut(), 248);
        x.passage(2, 5, true);
        C.due("a way round", x.cut(), 8);
        Check.act(x, "*0");
        C.due("gallery 0 is closed", x.cut(), 255);
        x.leave(7);
        C.due("who is there", x.cut(), 127);
        Check.act(x, "*0*3");
        C.due("open again", x.cut(), 0);
    }

    private static void hold() {
        SongLamps x = new SongLamps();
        int[] wrong = {-111, 0, 110, 101, 99, 11, 199 - 9, 900, 909, 990, 1000, 1111, Integer.MAX_VALUE,
            Integer.MIN_VALUE};
        for (int songs : wrong) {
            C.due("hold(" + songs + ", 0, 0)", x.hold(songs, 0, 0), -2);
        }
        C.due("hold(111, -1, 0)", x.hold(111, -1, 0), -2);
        C.due("hold(111, 1000, 0)", x.hold(111, 1000, 0), -2);
        C.due("hold(111, 0, 2)", x.hold(111, 0, 2), -2);
        C.due("hold(111, 0, -1)", x.hold(111, 0, -1), -2);
        int[][] rows = {{111, 222, 99, 0}, {111, 333, 3, 0}, {181, 999, 12, 0}, {345, 789, 19, 0},
            {911, 199, 99, 0}, {119, 991, 99, 0}, {191, 919, 99, 0}, {999, 999, 99, 0}, {111, 990, 99, 0}};
        for (int[] row : rows) {
            C.due("hold(" + row[0] + ", " + row[1] + ", 0)", x.hold(row[0], row[1], 0), row[2]);
            C.due("hold(" + row[0] + ", " + row[1] + ", 1)", x.hold(row[0], row[1], 1), row[3]);
        }
        int others = 0;
        for (int songs = 111; songs <= 999; songs++) {
            if (songs % 10 == 0 || songs / 10 % 10 == 0) {
                continue;
            }
            for (int rests = 0; rests <= 999; rests++) {
                int[] due = Model.holdOf(songs, rests);
                // Two calls a row, and an object has 512.
                x = rests % 250 == 0 ? new SongLamps() : x;
                C.due("hold(" + songs + ", " + rests + ", 0)", x.hold(songs, rests, 0), due[0]);
                C.due("hold(" + songs + ", " + rests + ", 1)", x.hold(songs, rests, 1), due[1]);
                others += due[1] > 0 ? 1 : 0;
            }
        }
        C.due("it is not always the first who begins", others > 0 ? 1 : 0, 1);
    }

    private static void round() {
        SongLamps x = new SongLamps();
        C.due("round(0, 0, 1, 0)", x.round(0, 0, 1, 0), -2);
        C.due("round(1, 0, 0, 0)", x.round(1, 0, 0, 0), -2);
        C.due("round(100, 0, 1, 0)", x.round(100, 0, 1, 0), -2);
        C.due("round(1, 0, 100, 0)", x.round(1, 0, 100, 0), -2);
        C.due("round(1, -1, 1, 0)", x.round(1, -1, 1, 0), -2);
        C.due("round(1, 0, 1, -1)", x.round(1, 0, 1, -1), -2);
        C.due("round(1, 100, 1, 0)", x.round(1, 100, 1, 0), -2);
        C.due("round(1, 0, 1, 100)", x.round(1, 0, 1, 100), -2);
        C.due("round(99, 1, 98, 1)", x.round(99, 1, 98, 1), 9701);
        C.due("round(98, 0, 99, 1)", x.round(98, 0, 99, 1), Model.roundOf(98, 0, 99, 1));
        C.due("round(2, 0, 2, 1)", x.round(2, 0, 2, 1), -6);
        for (int p = 1; p <= 99; p += 7) {
            for (int q = 1; q <= 99; q++) {
                x = new SongLamps();
                for (int a = 0; a <= 99; a += 11) {
                    for (int b = 0; b <= 99; b += 9) {
                        C.due("round(" + p + ", " + a + ", " + q + ", " + b + ")", x.round(p, a, q, b),
                                Model.roundOf(p, a, q, b));
                    }
                }
            }
        }
    }
}
