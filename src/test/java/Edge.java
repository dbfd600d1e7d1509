/** Boundary tests: a sentence of the document at a time, and behind each refused call the state as it was. */
final class Edge {
    /** A call on an object. */
    interface Call {
        long on(SongLamps x);
    }

    /** A call on an object, with a number that is to be tried. */
    interface Trial {
        long on(SongLamps x, int n);
    }

    /** Numbers far off, and such that become small where bits, bytes or halves of an int are cut off. */
    private static final int[] FAR_OFF = {Integer.MIN_VALUE, Integer.MIN_VALUE + 1, -1000000000, -65536, -256, -128,
        -64, -32, 32, 64, 128, 256, 65536, 1 << 30, 1000000000, Integer.MAX_VALUE - 1, Integer.MAX_VALUE};

    private final Check check;
    private String sentence = "";

    Edge(String name) {
        check = new Check(name);
    }

    /** The words of the document that the rows behind it hold to. */
    void sentence(String words) {
        sentence = words;
    }

    void due(String call, long got, long want) {
        check.due("[" + sentence + "] " + call, got, want);
    }

    void same(String call, String got, String want) {
        check.same("[" + sentence + "] " + call, got, want);
    }

    /** The call answers what is due, and all that can be seen is as it was, in the images, too. */
    void refused(String told, Scene scene, Call call, long want) {
        String row = told + " in " + scene;
        for (int view = 0; view < Scene.VIEWS; view++) {
            SongLamps x = scene.made();
            due(row, call.on(x), want);
            same(row + " changes nothing", Scene.seen(x, view), scene.seenAhead(view));
        }
    }

    /** Whatever it answers, nothing is changed by asking. */
    void changesNothing(String told, Scene scene, Call call) {
        refused(told, scene, call, call.on(scene.made()));
    }

    /** From low to high no number has that refusal; each other one has, and changes nothing. */
    void range(String told, Scene scene, int low, int high, long refusal, Trial trial) {
        for (int n = low; n <= high; n = n < low + 70 || n >= high - 70 ? n + 1 : n + 37) {
            due(told + " of " + n + " in " + scene + " is as told", trial.on(scene.made(), n) == refusal ? 1 : 0, 0);
        }
        outside(told, scene, low - 1, refusal, trial);
        outside(told, scene, low - 2, refusal, trial);
        outside(told, scene, high + 1, refusal, trial);
        outside(told, scene, high + 2, refusal, trial);
        for (int far : FAR_OFF) {
            int[] near = {far, low + far, high + far};
            for (int n : near) {
                if (n < low || n > high) {
                    outside(told, scene, n, refusal, trial);
                }
            }
        }
    }

    private void outside(String told, Scene scene, int n, long refusal, Trial trial) {
        refused(told + " of " + n, scene, x -> trial.on(x, n), refusal);
    }

    void end() {
        check.end();
    }
}
