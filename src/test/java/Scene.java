/** How things may stand ahead of a call. */
enum Scene {
    /** A new object. */
    EMPTY,
    /** Voices, acts that can be on the pad, image 0 kept alone. */
    BUSY,
    /** The same, but more signs must come. */
    FAULTY,
    /** The same, but the second act on the pad can not be. */
    STUCK,
    /** Eight voices, three of them singing in 3, 60 signs, eight sights, both images. */
    CROWDED;

    /** As it is; behind restore(0); behind restore(1). */
    static final int VIEWS = 3;

    private final String[] ahead = new String[VIEWS];

    SongLamps made() {
        SongLamps x = new SongLamps();
        switch (this) {
            case BUSY -> begin(x, "Ah.B>1*7");
            case FAULTY -> begin(x, "Ah.B>1*");
            case STUCK -> begin(x, "AhAh.");
            case CROWDED -> crowd(x);
            default -> { }
        }
        return x;
    }

    /** 0 - 1 - 2 - 3 - 9; D and E sing a third in firedamp, A and B a beat apart in 0; a fall in 8. */
    private static void begin(SongLamps x, String text) {
        for (int g = 0; g < 3; g++) {
            x.passage(g, g + 1, true);
        }
        x.passage(3, 9, true);
        x.gallery(0, 4, false);
        x.gallery(3, 5, true);
        x.voice(0, 5, 10, 4, 0);
        x.voice(1, 0, 23, 30, 0);
        x.voice(2, 7, 7, 0, 0);
        x.voice(3, 2, 20, 9, 3);
        x.voice(4, 2, 20, 9, 3);
        x.image(0);
        Check.act(x, "AfBgDkEo*8.");
        x.heard(1, 6);
        Check.write(x, text);
    }

    private static void crowd(SongLamps x) {
        begin(x, "");
        x.passage(0, 5, true);
        x.voice(5, 0, 23, 99, 5);
        x.voice(6, 1, 22, 98, 3);
        x.voice(7, 23, 23, 97, 9);
        x.image(1);
        Check.act(x, "FaGbHx.");
        for (int i = 0; i < 7; i++) {
            x.heard(2, 7);
        }
        StringBuilder text = new StringBuilder("F>0F>5");
        while (text.length() < 60) {
            text.append(text.length() % 4 == 2 ? ".." : "*6");
        }
        Check.write(x, text.toString());
    }

    String seenAhead(int view) {
        if (ahead[view] == null) {
            ahead[view] = seen(made(), view);
        }
        return ahead[view];
    }

    /** All that can be seen of an object, in one row. */
    static String seen(SongLamps x, int view) {
        StringBuilder row = new StringBuilder();
        if (view > 0) {
            row.append(x.restore(view - 1)).append(": ");
        }
        toldOf(x, row);
        behindOf(x, row);
        for (int g = 0; g < 10; g++) {
            row.append(x.light(g)).append(' ');
        }
        row.append(x.shakes()).append(' ').append(x.keep(1)).append(' ').append(x.cut()).append("; ");
        for (int i = -1; i < 20; i++) {
            row.append(x.losts(i)).append(' ');
        }
        return row.append(x.listen(0)).append(' ').append(x.listen(1)).toString();
    }

    private static void toldOf(SongLamps x, StringBuilder row) {
        for (int what = 0; what < 7; what++) {
            row.append(x.told(what)).append(' ');
        }
        for (int v = 0; v < 8; v++) {
            for (int what = 0; what < 6; what++) {
                row.append(x.told(10 + 10 * v + what)).append(' ');
            }
        }
        for (int g = 0; g < 10; g++) {
            for (int what = 0; what < 3; what++) {
                row.append(x.told(100 + 10 * g + what)).append(' ');
            }
        }
        row.append("; ");
    }

    /** What the signs on the pad come to. */
    private static void behindOf(SongLamps x, StringBuilder row) {
        row.append(x.fault()).append(' ').append(x.judge(0)).append(' ').append(x.judge(1)).append(' ');
        for (int v = 0; v < 8; v++) {
            for (int what = 0; what < 3; what++) {
                row.append(x.behind(v, what)).append(' ');
            }
        }
        for (int g = 0; g < 10; g++) {
            row.append(x.seam(g, 0)).append(' ').append(x.seam(g, 1)).append(' ');
        }
        for (int what = 0; what < 5; what++) {
            row.append(x.then(what)).append(' ');
        }
        row.append("; ");
    }
}
