/** All that an object tells of itself, as one text: where two pictures are the same, nothing has changed. */
final class Picture {
    private static final int OUTSIDE = -12, MISSING = -11, OTHER = -13;

    private Picture() {
    }

    /** Asks only what changes nothing (z is put back); some 200 calls at most. */
    static String of(PaintedWalls x) {
        StringBuilder text = new StringBuilder(ofKeepable(x));
        text.append(" rows");
        for (int i = 0, n = x.many(4); i < n; i++) {
            for (int what = 0; what < 3; what++) { add(text, x.row(i, what)); }
        }
        text.append(" tape");
        add(text, x.many(5));
        text.append(" trace");
        for (int i = 0, n = x.many(6); i < n; i++) { add(text, x.trace(i)); }
        for (int sheet = 0; sheet < 4; sheet++) {
            text.append(" sheet").append(sheet);
            addSheet(text, x, sheet);
        }
        for (int shelf = 0; shelf < 4; shelf++) {
            text.append(" shelf").append(shelf);
            for (int as = 0; as < 14; as = as == 5 ? 10 : as + 1) { add(text, x.taken(shelf, as)); }
        }
        return text.toString();
    }

    /** The same, then what was kept, then what THE TAPE tells: the object is spoilt by it. */
    static String ofAll(PaintedWalls x) {
        StringBuilder text = new StringBuilder(of(x));
        text.append("\nkept ").append(x.again()).append(' ').append(ofKeepable(x));
        text.append("\ntape ").append(x.town()).append(' ').append(ofKeepable(x));
        return text.toString();
    }

    /** What keep() keeps. */
    static String ofKeepable(PaintedWalls x) {
        StringBuilder text = new StringBuilder("names");
        for (int name = 0, n = x.many(0); name < n; name++) {
            text.append(" of").append(name);
            for (int what = 0; what < 5; what++) { add(text, x.of(name, what)); }
        }
        text.append(" walls");
        for (int wall = 0; wall < 10; wall++) {
            for (int what = 0; what < 2; what++) { add(text, x.wallOf(wall, what)); }
        }
        text.append(" laws");
        for (int law = 0; law < 4; law++) { add(text, x.lawOf(law)); }
        text.append(" state");
        for (int what = 0; what < 6; what++) { add(text, x.state(what)); }
        int z = x.seed(0);
        x.seed(z);
        text.append(" z");
        add(text, z);
        return text.toString();
    }

    /** A SHEET may hold numbers as low as refusals: so no test puts -11 to -13 on one of which it takes a picture. */
    private static void addSheet(StringBuilder text, PaintedWalls x, int sheet) {
        for (int sort = 0; sort < 4; sort++) {
            int item = x.item(sheet, sort, 0);
            if (item == MISSING || item == OTHER) { continue; }
            text.append(" sort").append(sort);
            for (int i = 1; item != OUTSIDE && i < 42; i++) {
                add(text, item);
                item = x.item(sheet, sort, i);
            }
        }
    }

    private static void add(StringBuilder text, int v) {
        text.append(' ').append(v);
    }
}
