/** Counts the calls whose answer is not the one that is due. */
final class Check {
    private final String name;
    private int rows;
    private int wrong;

    Check(String name) {
        this.name = name;
    }

    void due(String call, long got, long want) {
        rows++;
        if (got != want) {
            wrong++;
            System.out.println(name + ": " + call + " answered " + got + ", due is " + want);
        }
    }

    /** Wipes the pad and says a text, sign by sign. */
    static SongLamps write(SongLamps x, String text) {
        x.wipe();
        for (int i = 0; i < text.length(); i++) {
            x.say(text.charAt(i));
        }
        return x;
    }

    /** What done() answers to a text. */
    static int act(SongLamps x, String text) {
        return write(x, text).done();
    }

    /** All that told tells, in one row: to see that a refused call changes nothing. */
    static String all(SongLamps x) {
        StringBuilder row = new StringBuilder();
        for (int what = 0; what < 200; what++) {
            // What else is asked for is refused, and an object has 512 calls alone.
            if (what % 10 <= (what < 10 ? 6 : what < 100 ? 5 : 2)) {
                row.append(x.told(what)).append(' ');
            }
        }
        return row.toString();
    }

    void same(String call, String got, String want) {
        rows++;
        if (!got.equals(want)) {
            wrong++;
            System.out.println(name + ": " + call + " was " + got + ", due is " + want);
        }
    }

    void end() {
        System.out.println(name + ": " + rows + " answers, " + wrong + " of them wrong");
        if (wrong != 0) {
            System.exit(1);
        }
    }
}
