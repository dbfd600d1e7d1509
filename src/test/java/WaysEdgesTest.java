/** The edges of promises 17 to 22, a sentence at a time. */
final class WaysEdgesTest {
    private static final Edge E = new Edge("WaysEdgesTest");
    private static final int NONE = -6, OUTSIDE = -2;

    public static void main(String[] args) {
        wayLongest();
        wayToItself();
        wayLit();
        wayClosed();
        wayLeast();
        wayNone();
        fewestSets();
        fewestEmptyAndAll();
        fewestLeast();
        keepNobody();
        keepApart();
        keepMost();
        cutOff();
        cutClosed();
        cutNought();
        holdSongs();
        holdRests();
        holdNinetyNine();
        holdDigits();
        holdWho();
        holdAgain();
        roundRange();
        roundNow();
        roundFirst();
        roundNever();
        E.end();
    }

    /** 0 - 1 - .. - 9; A to E sing in 0, 2, 4, 6, 8, whose echoes light 1, 3, 5, 7, 9. */
    private static SongLamps litRow() {
        SongLamps x = new SongLamps();
        for (int g = 0; g < 9; g++) {
            x.passage(g, g + 1, true);
        }
        for (int v = 0; v < 5; v++) {
            x.gallery(2 * v, 2 * v + 1, false);
            x.voice(v, 0, 23, 99, 2 * v);
        }
        Check.act(x, "AxBxCxDxEx");
        return x;
    }

    private static void wayIs(SongLamps x, int from, int to, int many, int next) {
        E.due("way(" + from + ", " + to + ", 0)", x.way(from, to, 0), many);
        E.due("way(" + from + ", " + to + ", 1)", x.way(from, to, 1), next);
    }

    private static void wayLongest() {
        E.sentence("17: the fewest PASSAGES from a GALLERY to another one");
        SongLamps x = litRow();
        for (int from = 0; from < 10; from++) {
            for (int to = 0; to < 10; to++) {
                int many = from < to ? to - from : from - to;
                wayIs(x, from, to, many, many == 0 ? NONE : from < to ? from + 1 : from - 1);
            }
        }
        x.passage(0, 9, true);
        wayIs(x, 0, 9, 1, 9);
        wayIs(x, 9, 0, 1, 0);
        wayIs(x, 0, 5, 5, 1);
        wayIs(x, 0, 6, 4, 9);
    }

    private static void wayToItself() {
        E.sentence("17: (0: it is that one) ... (NONE: 0, too)");
        SongLamps x = litRow();
        for (int g = 0; g < 10; g++) {
            wayIs(x, g, g, 0, NONE);
        }
        Check.act(x, "*4B-");
        wayIs(x, 4, 4, NONE, NONE);
        wayIs(x, 2, 2, NONE, NONE);
        wayIs(x, 3, 3, NONE, NONE);
        wayIs(x, 5, 5, 0, NONE);
    }

    private static void wayLit() {
        E.sentence("17: by none but GALLERIES in which lamps burn (both ends, too)");
        SongLamps x = litRow();
        Check.act(x, "Ba");
        wayIs(x, 0, 2, 2, 1);
        wayIs(x, 0, 3, NONE, NONE);
        wayIs(x, 3, 4, NONE, NONE);
        wayIs(x, 2, 4, NONE, NONE);
        wayIs(x, 4, 2, NONE, NONE);
        Check.act(x, "Bb");
        wayIs(x, 2, 4, 2, 3);
        Check.act(x, "A-");
        wayIs(x, 0, 2, NONE, NONE);
        wayIs(x, 2, 0, NONE, NONE);
        wayIs(x, 1, 2, NONE, NONE);
    }

    private static void wayClosed() {
        E.sentence("17: by none but GALLERIES that are not CLOSED (both ends, too)");
        SongLamps x = litRow();
        Check.act(x, "*5");
        wayIs(x, 4, 6, NONE, NONE);
        wayIs(x, 4, 5, NONE, NONE);
        wayIs(x, 5, 4, NONE, NONE);
        wayIs(x, 0, 4, 4, 1);
        wayIs(x, 9, 6, 3, 8);
        x.passage(0, 9, true);
        wayIs(x, 4, 6, 8, 3);
        Check.act(x, "*0");
        wayIs(x, 4, 6, NONE, NONE);
        wayIs(x, 0, 1, NONE, NONE);
        wayIs(x, 1, 0, NONE, NONE);
    }

    private static void wayLeast() {
        E.sentence("17: the GALLERY next to the first (the least on such a way)");
        SongLamps x = litRow();
        for (int g = 0; g < 9; g++) {
            x.passage(g, g + 1, false);
        }
        for (int g = 1; g < 9; g++) {
            x.passage(0, g, true);
            x.passage(9, g, true);
        }
        for (int g = 1; g < 9; g++) {
            wayIs(x, 0, 9, 2, g);
            wayIs(x, 9, 0, 2, g);
            Check.act(x, "*" + g);
        }
        wayIs(x, 0, 9, NONE, NONE);
        SongLamps y = litRow();
        y.passage(5, 0, true);
        y.passage(0, 1, false);
        y.passage(5, 8, true);
        wayIs(y, 5, 9, 2, 8);
    }

    private static void wayNone() {
        E.sentence("17: NONE");
        SongLamps x = new SongLamps();
        wayIs(x, 0, 0, NONE, NONE);
        wayIs(x, 0, 9, NONE, NONE);
        x.passage(0, 9, true);
        wayIs(x, 0, 9, NONE, NONE);
        x.voice(0, 0, 23, 9, 0);
        x.gallery(0, 9, false);
        Check.act(x, "Ax");
        wayIs(x, 0, 9, 1, 9);
        x.passage(0, 9, false);
        wayIs(x, 0, 9, NONE, NONE);
        wayIs(x, 9, 9, 0, NONE);
    }

    private static void fewestSets() {
        E.sentence("18: OUTSIDE: the set 0 to 1023");
        E.range("fewest(n, 0)", Scene.EMPTY, 0, 1023, OUTSIDE, (x, n) -> x.fewest(n, 0));
        E.range("fewest(n, 1)", Scene.BUSY, 0, 1023, OUTSIDE, (x, n) -> x.fewest(n, 1));
        E.refused("fewest(1024, 2)", Scene.BUSY, x -> x.fewest(1024, 2), OUTSIDE);
        for (int set = 0; set < 1024; set += 11) {
            SongLamps x = new SongLamps();
            E.due("each for itself, fewest(" + set + ", 0)", x.fewest(set, 0), Integer.bitCount(set));
            E.due("each for itself, fewest(" + set + ", 1)", x.fewest(set, 1), set);
        }
    }

    private static void fewestEmptyAndAll() {
        E.sentence("18: the fewest GALLERIES to sing in so that all of a set are LIT: how many");
        SongLamps x = new SongLamps();
        E.due("none, how many", x.fewest(0, 0), 0);
        E.due("none, which", x.fewest(0, 1), 0);
        E.due("all, how many", x.fewest(1023, 0), 10);
        E.due("all, which", x.fewest(1023, 1), 1023);
        for (int g = 0; g < 10; g++) {
            x.gallery(g, 9 - g, false);
        }
        E.due("two by two, how many", x.fewest(1023, 0), 5);
        E.due("two by two, which", x.fewest(1023, 1), 31);
        for (int g = 0; g < 10; g++) {
            x.gallery(g, 0, false);
        }
        E.due("all ECHO in 0, how many", x.fewest(1023, 0), 9);
        E.due("all ECHO in 0, which", x.fewest(1023, 1), 1022);
        E.due("0 alone", x.fewest(1, 1), 1);
        E.due("0 and 9", x.fewest(513, 1), 512);
        E.due("none", x.fewest(0, 1), 0);
        Check.act(x, "*0*1*2*3*4*5*6*7*8*9");
        E.due("falls are no matter", x.fewest(1023, 1), 1022);
    }

    private static void fewestLeast() {
        E.sentence("18: which, least as bits of as few");
        for (int echoes = 0; echoes < 12; echoes++) {
            SongLamps x = new SongLamps();
            Model m = new Model();
            for (int g = 0; g < 10; g++) {
                int echo = (g * echoes + 3 + echoes / 3) % 10;
                x.gallery(g, echo, false);
                m.gallery(g, echo, false);
            }
            for (int set = echoes; set < 1024; set += 5) {
                E.due("fewest(" + set + ", 0), ECHOES " + echoes, x.fewest(set, 0), m.fewest(set, 0));
                E.due("fewest(" + set + ", 1), ECHOES " + echoes, x.fewest(set, 1), m.fewest(set, 1));
            }
        }
        SongLamps x = new SongLamps();
        x.gallery(3, 9, false);
        E.due("one that is not of the set", x.fewest(512, 1), 8);
        x.gallery(0, 9, false);
        E.due("a lesser one", x.fewest(512, 1), 1);
    }

    private static void keepNobody() {
        E.sentence("19: of VOICES that SING the most that can SING on");
        SongLamps x = new SongLamps();
        E.due("nobody is there, how many", x.keep(0), 0);
        E.due("nobody is there, which", x.keep(1), 0);
        for (int v = 0; v < 8; v++) {
            x.voice(v, 0, 23, 9, 0);
        }
        x.gallery(0, 0, true);
        E.due("nobody sings, how many", x.keep(0), 0);
        E.due("nobody sings, which", x.keep(1), 0);
        Check.act(x, "Hx");
        E.due("one, how many", x.keep(0), 1);
        E.due("one, which", x.keep(1), 128);
        Check.act(x, "AxBxCxDxExFxGx");
        E.due("all the same, how many", x.keep(0), 8);
        E.due("all the same, which", x.keep(1), 255);
    }

    private static void keepApart() {
        E.sentence("19: so that in no GALLERY in GAS two of them differ by 3 or 4");
        for (int a = 0; a < 24; a++) {
            for (int b = 0; b < 24; b++) {
                SongLamps x = new SongLamps();
                x.voice(2, 0, 23, 9, 9);
                x.voice(6, 0, 23, 9, 9);
                x.voice(5, 0, 23, 9, 8);
                x.gallery(9, 9, true);
                x.passage(9, 8, true);
                Check.act(x, "C" + (char) ('a' + a) + "G" + (char) ('a' + b));
                int apart = a > b ? a - b : b - a;
                boolean one = apart == 3 || apart == 4;
                E.due(a + " and " + b + ", how many", x.keep(0), one ? 1 : 2);
                E.due(a + " and " + b + ", which", x.keep(1), one ? 4 : 68);
                x.gallery(9, 9, false);
                E.due("not in GAS", x.keep(1), 68);
                x.gallery(9, 9, true);
                x.gallery(8, 8, true);
                Check.act(x, "G>8");
                E.due("not in one GALLERY", x.keep(1), 68);
            }
        }
    }

    private static void keepMost() {
        E.sentence("19: which, least as bits of as many");
        SongLamps x = new SongLamps();
        x.gallery(1, 1, true);
        for (int v = 0; v < 8; v++) {
            x.voice(v, 0, 23, 9, 1);
        }
        Check.act(x, "AeBaChDiEl");
        E.due("A with none of them: four without it but for two that differ", x.keep(0), 3);
        E.due("B, C and D", x.keep(1), 2 + 4 + 8);
        Check.act(x, "C-D-E-");
        E.due("A or B: the least", x.keep(1), 1);
        Check.act(x, "B-AaHd");
        E.due("A or H: the least", x.keep(1), 1);
        Check.act(x, "GdA-BaCa");
        E.due("B and C, or G and H: the least", x.keep(1), 6);
        Check.act(x, "FdB-");
        E.due("more are more", x.keep(1), 32 + 64 + 128);
    }

    private static void cutOff() {
        E.sentence("20: VOICES that can not come to GALLERY 0 (by PASSAGES), as bits");
        SongLamps x = new SongLamps();
        E.due("nobody is there", x.cut(), 0);
        for (int v = 0; v < 8; v++) {
            x.voice(v, 0, 23, 9, 9 - v);
        }
        E.due("no PASSAGES", x.cut(), 255);
        for (int g = 9; g > 2; g--) {
            x.passage(g, g - 1, true);
        }
        E.due("not to 0", x.cut(), 255);
        x.passage(2, 1, true);
        x.passage(1, 0, true);
        E.due("nine PASSAGES away", x.cut(), 0);
        for (int v = 0; v < 8; v++) {
            x.leave(v);
            x.voice(v, 0, 23, 9, 0);
        }
        x.passage(1, 0, false);
        E.due("who is in 0 is there", x.cut(), 0);
        x.voice(7, 0, 23, 9, 1);
        E.due("who is not", x.cut(), 128);
        x.leave(7);
        E.due("who is no more", x.cut(), 0);
    }

    private static void cutClosed() {
        E.sentence("20: none that is CLOSED; who is in one that is CLOSED can not");
        SongLamps x = new SongLamps();
        for (int g = 0; g < 9; g++) {
            x.passage(g, g + 1, true);
        }
        for (int v = 0; v < 8; v++) {
            x.voice(v, 0, 23, 9, v + 2);
        }
        for (int g = 1; g < 10; g++) {
            Check.act(x, "*" + g);
            int off = 0;
            for (int v = 0; v < 8; v++) {
                off += v + 2 >= g ? 1 << v : 0;
            }
            E.due("a fall in " + g, x.cut(), off);
            Check.act(x, "*" + g);
            E.due("and no more", x.cut(), 0);
        }
        Check.act(x, "*3*3*3*9");
        E.due("it is dark all the time, and that is no matter", x.cut(), 254);
    }

    private static void cutNought() {
        E.sentence("20: nobody can if that is CLOSED");
        SongLamps x = new SongLamps();
        x.passage(0, 1, true);
        x.voice(0, 0, 23, 9, 0);
        x.voice(3, 0, 23, 9, 1);
        E.due("both can", x.cut(), 0);
        Check.act(x, "*0");
        E.due("nobody can, who is in it, too", x.cut(), 9);
        Check.act(x, "*0");
        E.due("both can", x.cut(), 0);
        SongLamps y = new SongLamps();
        Check.act(y, "*0");
        E.due("nobody is there", y.cut(), 0);
    }

    private static void holdSongs() {
        E.sentence("21: OUTSIDE: songs 111 to 999 without noughts (1 to 9: three digits)");
        for (int songs = -1200; songs <= 2000; songs++) {
            boolean asTold = ("" + songs).matches("[1-9][1-9][1-9]");
            SongLamps x = new SongLamps();
            E.due("hold(" + songs + ", 999, 0) is refused", x.hold(songs, 999, 0) == OUTSIDE ? 1 : 0, asTold ? 0 : 1);
            E.due("hold(" + songs + ", 0, 1) is refused", x.hold(songs, 0, 1) == OUTSIDE ? 1 : 0, asTold ? 0 : 1);
        }
        int[] far = {Integer.MIN_VALUE, Integer.MIN_VALUE + 111, -111, -999, 0, 11, 99, 100, 110, 101, 990, 909, 1000,
            1111, 9999, 65536 + 111, 111 + 256 * 256 * 256, Integer.MAX_VALUE};
        for (int songs : far) {
            E.refused("hold(" + songs + ", 0, 0)", Scene.BUSY, x -> x.hold(songs, 0, 0), OUTSIDE);
        }
        E.due("the least", new SongLamps().hold(111, 999, 0), 3);
        E.due("the greatest", new SongLamps().hold(999, 999, 0), 99);
    }

    private static void holdRests() {
        E.sentence("21: OUTSIDE: rests 0 to 999 (0 to 9: likewise)");
        E.range("hold(111, n, 0)", Scene.EMPTY, 0, 999, OUTSIDE, (x, n) -> x.hold(111, n, 0));
        E.range("hold(999, n, 1)", Scene.BUSY, 0, 999, OUTSIDE, (x, n) -> x.hold(999, n, 1));
        E.refused("hold(110, 1000, 2)", Scene.BUSY, x -> x.hold(110, 1000, 2), OUTSIDE);
    }

    private static void holdIs(int songs, int rests, int beats, int who) {
        SongLamps x = new SongLamps();
        E.due("hold(" + songs + ", " + rests + ", 0)", x.hold(songs, rests, 0), beats);
        E.due("hold(" + songs + ", " + rests + ", 1)", x.hold(songs, rests, 1), who);
    }

    private static void holdNinetyNine() {
        E.sentence("21: how many beats at the most, 99 if it is as many or more");
        holdIs(111, 0, 99, 0);
        holdIs(999, 0, 99, 0);
        holdIs(999, 999, 99, 0);
        holdIs(111, 222, 99, 0);
        holdIs(111, 322, 5, 1);
        holdIs(111, 333, 3, 0);
        holdIs(111, 999, 3, 0);
        holdIs(444, 888, 99, 0);
        holdIs(444, 988, 20, 1);
        holdIs(761, 797, 37, 2);
        holdIs(176, 779, 37, 0);
        holdIs(716, 779, 37, 1);
    }

    private static void holdDigits() {
        E.sentence("21: voice i: three digits, the first one's the highest");
        holdIs(199, 0, 99, 0);
        holdIs(111, 99, 99, 0);
        holdIs(111, 909, 99, 0);
        holdIs(111, 990, 99, 0);
        holdIs(911, 199, 99, 0);
        holdIs(191, 919, 99, 0);
        holdIs(119, 991, 99, 0);
        holdIs(911, 919, 15, 1);
        holdIs(911, 991, 15, 2);
        holdIs(191, 199, 15, 0);
        holdIs(199, 999, 99, 0);
        holdIs(188, 999, 99, 0);
        for (int digit = 1; digit <= 9; digit++) {
            for (int songs : new int[] {111 * digit, 100 * digit + 99, 100 * digit + 11, 191 + digit - 1, 911}) {
                for (int rests : new int[] {100 * digit, 100 * digit + 99, 10 * digit, digit, 909 - digit, 999}) {
                    holdAsModel(new SongLamps(), songs, rests);
                }
            }
        }
        for (int songs = 111; songs <= 999; songs += 37) {
            for (int rests = 0; rests <= 999; rests += 7) {
                holdAsModel(new SongLamps(), songs, rests);
            }
        }
    }

    private static void holdAsModel(SongLamps x, int songs, int rests) {
        if (songs % 10 != 0 && songs / 10 % 10 != 0) {
            int[] due = Model.holdOf(songs, rests);
            E.due("hold(" + songs + ", " + rests + ", 0)", x.hold(songs, rests, 0), due[0]);
            E.due("hold(" + songs + ", " + rests + ", 1)", x.hold(songs, rests, 1), due[1]);
        }
    }

    private static void holdAgain() {
        E.sentence("21: (all are rested at first): whatever was asked ahead of it");
        SongLamps x = new SongLamps();
        for (int i = 0; i < 250; i++) {
            holdAsModel(x, 111 + i * 353 % 889, 999 - i * 7 % 500);
        }
        E.due("nobody of the VOICES is asked", Scene.CROWDED.made().hold(111, 999, 0), 3);
    }

    private static void holdWho() {
        E.sentence("21: who begins, the least, for it");
        holdIs(111, 999, 3, 0);
        holdIs(123, 999, 6, 0);
        holdIs(321, 999, 6, 0);
        holdIs(811, 999, 12, 1);
        holdIs(721, 999, 11, 2);
        holdIs(711, 998, 10, 2);
        holdIs(711, 989, 10, 1);
    }

    private static void roundRange() {
        E.sentence("22: p beats, another one q (1 to 99), a, b beats (0 to 99) ago; OUTSIDE");
        for (Scene scene : new Scene[] {Scene.EMPTY, Scene.BUSY}) {
            E.range("round(n, 0, 1, 0)", scene, 1, 99, OUTSIDE, (x, n) -> x.round(n, 0, 1, 0));
            E.range("round(1, n, 1, 0)", scene, 0, 99, OUTSIDE, (x, n) -> x.round(1, n, 1, 0));
            E.range("round(1, 0, n, 0)", scene, 1, 99, OUTSIDE, (x, n) -> x.round(1, 0, n, 0));
            E.range("round(1, 0, 1, n)", scene, 0, 99, OUTSIDE, (x, n) -> x.round(1, 0, 1, n));
            E.range("round(n, 99, 99, 99)", scene, 1, 99, OUTSIDE, (x, n) -> x.round(n, 99, 99, 99));
        }
        E.refused("round(0, 0, 0, 0)", Scene.BUSY, x -> x.round(0, 0, 0, 0), OUTSIDE);
    }

    private static void roundNow() {
        E.sentence("22: (0: now)");
        SongLamps x = new SongLamps();
        for (int p = 1; p <= 99; p++) {
            E.due("both begin now", x.round(p, 0, 100 - p, 0), 0);
            E.due("one has just come round", x.round(p, p, 99, 0), 0);
            E.due("both have", x.round(p, 99 / p * p, p, p), 0);
        }
        E.due("a song of one beat begins at each", x.round(1, 99, 1, 98), 0);
    }

    private static void roundFirst() {
        E.sentence("22: behind how many beats both begin anew together first");
        SongLamps x = new SongLamps();
        E.due("the longest", x.round(99, 1, 98, 1), 9701);
        E.due("the longest, the other way", x.round(98, 1, 99, 1), 9701);
        E.due("one beat before it", x.round(99, 2, 98, 2), 9700);
        E.due("one song's end", x.round(99, 98, 99, 98), 1);
        E.due("one song", x.round(99, 1, 99, 1), 98);
        E.due("one of one beat", x.round(99, 1, 1, 0), 98);
        E.due("one of one beat", x.round(1, 0, 99, 98), 1);
        E.due("longer ago than it lasts", x.round(7, 99, 5, 99), 6);
        E.due("once round ago", x.round(50, 51, 50, 1), 49);
        int calls = 0;
        for (int p = 90; p <= 99; p++) {
            for (int q = 88; q <= 99; q++) {
                calls++;
                x = calls % 100 == 0 ? new SongLamps() : x;
                E.due("round(" + p + ", 1, " + q + ", " + p + ")", x.round(p, 1, q, p), Model.roundOf(p, 1, q, p));
                E.due("round(" + p + ", " + q + ", " + q + ", 99)", x.round(p, q, q, 99), Model.roundOf(p, q, q, 99));
            }
        }
    }

    private static void roundNever() {
        E.sentence("22: NONE: never");
        SongLamps x = new SongLamps();
        E.due("even and odd", x.round(2, 0, 2, 1), NONE);
        E.due("even and odd", x.round(98, 0, 96, 1), NONE);
        E.due("one song, a beat apart", x.round(99, 0, 99, 1), NONE);
        E.due("one song, a beat apart", x.round(99, 98, 99, 99), NONE);
        E.due("a third apart", x.round(99, 1, 96, 0), NONE);
        for (int p = 1; p <= 99; p++) {
            E.due("never, but for songs of one beat", x.round(p, 0, p, 1), p == 1 ? 0 : NONE);
        }
    }
}
