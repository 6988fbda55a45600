/** Counts answers and prints every one that is not the one that is due. */
final class Check {
    private final String title;
    private int asked = 0;
    private int wrong = 0;

    Check(String title) {
        this.title = title;
    }

    void due(String call, long want, long got) {
        asked++;
        if (want != got) {
            wrong++;
            System.out.println(title + ": " + call + " answered " + got + ", due is " + want);
        }
    }

    void isTrue(String what, boolean holds) {
        due(what, 1, holds ? 1 : 0);
    }

    int wrong() {
        return wrong;
    }

    void end() {
        System.out.println(title + ": " + asked + " answers, " + wrong + " wrong");
        if (wrong != 0 || asked == 0) {
            System.exit(1);
        }
    }

    /** Feeds a whole text to the tape, each sign a byte. */
    static void feed(PaintedWalls walls, String text) {
        for (int at = 0; at < text.length(); at += 8) {
            int n = Math.min(8, text.length() - at);
            long eight = 0;
            for (int i = 0; i < n; i++) {
                eight |= (text.charAt(at + i) & 255L) << (8 * i);
            }
            walls.feed(eight, n);
        }
    }

    static int town(PaintedWalls walls, String text) {
        feed(walls, text);
        return walls.town();
    }
}
