/** Promises 37 to 47: sheets, shelves, acts and their trace, how many, what is kept. */
public final class ThingsTest {
    private static final int LEAST = Integer.MIN_VALUE, MOST = Integer.MAX_VALUE;
    private static final Check CHECK = new Check("ThingsTest");

    private static void due(String call, long want, long got) {
        CHECK.due(call, want, got);
    }

    public static void main(String[] args) {
        sheets();
        narrowing();
        minds();
        shelvesOfNames();
        shelvesOfRows();
        actsOfEachKind();
        partedByNothing();
        wrapping();
        noAct();
        many();
        keepAgain();
        keepLeavesOut();
        CHECK.end();
    }

    private static void sheets() {
        PaintedWalls x = new PaintedWalls();
        due("put, missing", -11, x.put(0, 0, 1));
        due("item, missing", -11, x.item(3, 2, 0));
        due("sheet", 1, x.sheet(3, 2, 40));
        for (int sheet : new int[] {-1, 4, LEAST, MOST}) {
            due("no such sheet", -1, x.sheet(sheet, 0, 1));
            due("no such sheet", -1, x.put(sheet, 0, 1));
            due("no such sheet", -1, x.item(sheet, 0, 0));
        }
        due("sort 4", -1, x.sheet(3, 4, 1));
        due("sort -2", -1, x.sheet(3, -2, 1));
        due("41", -1, x.sheet(3, 2, 41));
        due("most", -1, x.sheet(3, 2, MOST));
        due("-1", -14, x.sheet(3, 2, -1));
        due("least", -14, x.sheet(3, 2, LEAST));
        due("BAD before -14", -1, x.sheet(3, 4, -1));
        due("all 0", 0, x.item(3, 2, 39));
        due("place 40", -12, x.item(3, 2, 40));
        due("place -1", -12, x.item(3, 2, -1));
        due("put 39", 1, x.put(3, 39, -15));
        due("item", -15, x.item(3, 2, 39));
        due("put 40", -12, x.put(3, 40, 1));
        due("put -1", -12, x.put(3, -1, 1));
        due("another sort", -13, x.item(3, 1, 0));
        due("sort before place", -13, x.item(3, 1, 99));
        due("sort 4", -1, x.item(3, 4, 0));
        due("sort -1", -1, x.item(3, -1, 0));
        due("anew", 1, x.sheet(3, 2, 40));
        due("all 0", 0, x.item(3, 2, 39));
        due("of none", 1, x.sheet(3, 0, 0));
        due("nowhere", -12, x.item(3, 0, 0));
        due("nor to put", -12, x.put(3, 0, 0));
        due("missing", 1, x.sheet(3, -1, MOST));
        due("missing now", -11, x.item(3, 0, 0));
        due("missing still", 1, x.sheet(3, -1, LEAST));
    }

    private static void narrowing() {
        PaintedWalls x = new PaintedWalls();
        int[][] want = {
            {127, -128, 0, 1, -1, 0},
            {127, 128, 256, 0x7F01, -1, 0},
            {127, 128, 256, 0x12347F01, -1, LEAST},
            {127, 128, 256, 0x12347F01, -1, LEAST}};
        int[] put = {127, 128, 256, 0x12347F01, -1, LEAST};
        for (int sort = 0; sort < 4; sort++) {
            x.sheet(sort, sort, 6);
            for (int i = 0; i < 6; i++) {
                due("put", 1, x.put(sort, i, put[i]));
                due("item of sort " + sort, want[sort][i], x.item(sort, sort, i));
            }
        }
        x.put(1, 0, 0x8000);
        due("a short", -32768, x.item(1, 1, 0));
    }

    private static void minds() {
        PaintedWalls x = new PaintedWalls();
        for (int i = 0; i < 8; i++) { x.name(0, 0, 50, 0); }
        due("missing", -11, x.minds(0, 0, 0, 1));
        x.sheet(0, 0, 8);
        int[] put = {0, 99, 100, 127, -1, -128, 5, 98};
        int[] want = {0, 99, 99, 99, 0, 0, 5, 98};
        for (int i = 0; i < 8; i++) { x.put(0, i, put[i]); }
        due("sheet 4", -1, x.minds(4, 0, 0, 1));
        due("sheet -1", -1, x.minds(-1, 0, 0, 1));
        due("one 8", -1, x.minds(0, 0, 8, 0));
        due("one -1", -1, x.minds(0, 0, -1, 1));
        due("n 9", -1, x.minds(0, 0, 0, 9));
        due("n -1", -1, x.minds(0, 0, 0, -1));
        due("n least", -1, x.minds(0, 0, 0, LEAST));
        due("beyond the last one", -1, x.minds(0, 0, 1, 8));
        due("beyond the last one", -1, x.minds(0, 0, 7, 2));
        due("place -1", -12, x.minds(0, -1, 0, 1));
        due("place 9", -12, x.minds(0, 9, 0, 0));
        due("place most", -12, x.minds(0, MOST, 0, 8));
        due("not so many", -12, x.minds(0, 1, 0, 8));
        due("none there", -12, x.minds(0, 8, 0, 1));
        due("none asked", 0, x.minds(0, 8, 0, 0));
        for (int i = 0; i < 8; i++) { due("size stays", 50, x.of(i, 2)); }
        due("the last one", 1, x.minds(0, 7, 7, 1));
        due("size", 98, x.of(7, 2));
        due("size stays", 50, x.of(6, 2));
        due("all", 8, x.minds(0, 0, 0, 8));
        for (int i = 0; i < 8; i++) { due("size", want[i], x.of(i, 2)); }
        for (int sort = 1; sort < 4; sort++) {
            x.sheet(1, sort, 8);
            due("of another sort", -13, x.minds(1, 0, 0, 1));
            due("sort before place", -13, x.minds(1, 9, 0, 1));
        }
        due("BAD before -11", -1, x.minds(2, 0, 0, 9));
    }

    private static void shelvesOfNames() {
        PaintedWalls x = new PaintedWalls();
        boolean[][] under = {
            {true, false, false, false, false, false},
            {true, true, false, false, false, false},
            {true, false, true, false, false, false},
            {true, true, false, true, false, false},
            {true, false, true, false, true, false},
            {true, false, false, false, false, true}};
        for (int kind = 0; kind < 6; kind++) { x.name(kind, 0, 0, 0); }
        for (int kind = 0; kind < 6; kind++) {
            due("shelf", 1, x.shelf(3, 0, kind));
            for (int as = 0; as < 6; as++) { due("kind " + kind + " as " + as, under[kind][as] ? kind : -13, x.taken(3, as)); }
            for (int as = 10; as < 14; as++) { due("as a row", -13, x.taken(3, as)); }
        }
        for (int as : new int[] {-1, 6, 9, 14, LEAST, MOST}) { due("as " + as, -1, x.taken(3, as)); }
        for (int shelf : new int[] {-1, 4, LEAST, MOST}) {
            due("no such shelf", -1, x.shelf(shelf, 0, 0));
            due("no such shelf", -1, x.taken(shelf, 0));
        }
        due("what 3", -1, x.shelf(3, 3, 0));
        due("what -1", -1, x.shelf(3, -1, 0));
        due("one 6", -1, x.shelf(3, 0, 6));
        due("one -1", -1, x.shelf(3, 0, -1));
        due("still there", 5, x.taken(3, 5));
        due("BAD of an empty shelf", -1, x.taken(0, 7));
        x.mind(5, 3, 0);
        due("of the kind that it is", 5, x.taken(3, 1));
        due("fewer names", 1, Check.town(x, "kept on 1;"));
        due("no such one at the time", -11, x.taken(3, 0));
        due("no act", 0, x.act(3, 0, 1));
        for (int i = 1; i < 6; i++) { x.name(0, 0, 0, 0); }
        due("there is one again", 5, x.taken(3, 0));
        due("nothing", 1, x.shelf(3, 2, MOST));
        due("nothing there", -11, x.taken(3, 0));
        due("nor a row", -11, x.taken(3, 10));
    }

    private static void shelvesOfRows() {
        PaintedWalls x = new PaintedWalls();
        due("missing", 1, x.shelf(0, 1, 0));
        due("so nothing", -11, x.taken(0, 10));
        due("sheet 4", -1, x.shelf(0, 1, 4));
        due("sheet -1", -1, x.shelf(0, 1, -1));
        for (int sort = 0; sort < 4; sort++) {
            x.sheet(sort, sort, 7 * sort);
            due("shelf", 1, x.shelf(sort, 1, sort));
            for (int as = 10; as < 14; as++) { due("as", as - 10 == sort ? 7 * sort : -13, x.taken(sort, as)); }
            for (int as = 0; as < 6; as++) { due("as one", -13, x.taken(sort, as)); }
        }
        x.sheet(2, 0, 3);
        due("the row stays", 14, x.taken(2, 12));
        x.sheet(2, -1, 0);
        due("the row stays", 14, x.taken(2, 12));
        x.shelf(2, 1, 2);
        due("nothing, as it is missing", -11, x.taken(2, 12));
        due("no act of a row", 0, x.act(1, 0, 9));
        x.name(0, 0, 0, 0);
        x.shelf(1, 0, 0);
        due("one in its stead", 0, x.taken(1, 0));
        due("no row there", -13, x.taken(1, 11));
        x.town();
        due("nor when there is no such one", -11, x.taken(1, 11));
        due("a row before", 21, x.taken(3, 13));
        x.shelf(3, 2, 0);
        due("nothing", -11, x.taken(3, 13));
    }

    private static void act(PaintedWalls x, int act, int at, int want, int... trace) {
        due("act " + act + " of " + at, want, x.act(0, act, at));
        due("how many bodies", trace.length, x.many(6));
        for (int i = 0; i < trace.length; i++) { due("body " + i, trace[i], x.trace(i)); }
        due("no more", -3, x.trace(trace.length));
        due("none before", -3, x.trace(-1));
    }

    /** Number 2, by hand 5: so sprays of a name are x * 7 + 2, and parts are by 3. */
    private static void actsOfEachKind() {
        PaintedWalls x = new PaintedWalls();
        for (int i = 0; i < 3; i++) { x.name(0, 5, 0, 0); }
        x.shelf(0, 0, 2);
        act(x, 0, 10, 72, 10);
        act(x, 1, 10, 47, 11, 10);
        act(x, 2, -10, -3, 12);
        act(x, 3, 10, 47 ^ 190, 13, 11, 10);
        x.mind(2, 1, 5);
        act(x, 0, 10, 72, 10);
        act(x, 1, 10, 56, 20, 11, 10);
        act(x, 2, 10, 3, 12);
        act(x, 3, 10, 56 ^ 190, 13, 20, 11, 10);
        x.mind(2, 2, 5);
        act(x, 0, 10, -72, 30, 10);
        act(x, 1, 10, -97, 11, 30, 10);
        act(x, 2, 10, 3, 12);
        act(x, 3, 10, (-97 ^ 190) - 0, 31, 13, 11, 30, 10, 12);
        x.mind(2, 3, 5);
        act(x, 0, 10, 67, 51, 10);
        act(x, 1, 10, 51, 20, 11, 51, 10);
        act(x, 2, 10, 8, 50, 12);
        act(x, 3, 10, 51 ^ 190, 13, 20, 11, 51, 10);
        x.mind(2, 4, 5);
        act(x, 0, 10, -72 ^ 12, 40, 30, 10);
        int drips = (-72 ^ 12) - 25 + (-37 ^ 12);
        act(x, 1, 10, drips, 41, 11, 40, 30, 10, 40, 30, 10);
        act(x, 2, 10, 3, 12);
        act(x, 3, 10, (drips ^ 190) - 0, 31, 13, 41, 11, 40, 30, 10, 40, 30, 10, 12);
        x.mind(2, 5, 5);
        act(x, 0, 10, 72, 10);
        act(x, 1, 10, 47, 11, 10);
        act(x, 2, 10, 3 ^ 16, 61, 12, 10);
        act(x, 2, -10, -3 ^ 16, 61, 12, 10);
        act(x, 3, 10, 3 - (47 ^ 190), 60, 13, 11, 10);
        // covered: number 2 by 1 leaves 2, told apart from nothing
        x.mind(2, 2, 3);
        act(x, 3, 10, ((-72 - 15) ^ 190) - 2, 31, 13, 11, 30, 10, 12);
        x.mind(2, 3, 1);
        act(x, 2, -7, 36, 50, 12);
    }

    private static void partedByNothing() {
        PaintedWalls x = new PaintedWalls();
        x.name(0, 0, 0, 0);
        x.shelf(0, 0, 0);
        act(x, 2, 10, -15, 12);
        x.mind(0, 1, 0);
        act(x, 2, 10, -15, 12);
        x.mind(0, 2, 0);
        act(x, 2, 10, -15, 12);
        act(x, 3, 10, -15, 31, 13, 11, 30, 10, 12);
        x.mind(0, 3, 0);
        act(x, 2, 10, -15, 50, 12);
        x.mind(0, 4, 0);
        act(x, 2, 10, -15, 12);
        act(x, 3, 10, -15, 31, 13, 41, 11, 40, 30, 10, 40, 30, 10, 12);
        x.mind(0, 5, 0);
        act(x, 2, 10, -15, 61, 12);
        act(x, 3, 10, 3 - (70 ^ 190), 60, 13, 11, 10);
        act(x, 0, 10, 70, 10);
    }

    private static void wrapping() {
        PaintedWalls x = new PaintedWalls();
        x.name(0, 0, 0, 0);
        x.name(0, 0, 0, 0);
        x.shelf(0, 0, 1);
        due("by -1, wrapped", LEAST, x.act(0, 2, LEAST));
        due("by -1", 7, x.act(0, 2, -7));
        due("sprays wrap", MOST * 7 + 1, x.act(0, 0, MOST));
        x.mind(1, 3, 9);
        due("x less n wraps", MOST / 8 * 4, x.act(0, 2, LEAST));
        x.mind(1, 4, 9);
        due("drips wrap", (0 - (LEAST * 7 + 1) ^ 12) - 45 + (-64 ^ 12), x.act(0, 1, LEAST));
    }

    private static void noAct() {
        PaintedWalls x = new PaintedWalls();
        x.name(0, 1, 0, 0);
        x.shelf(0, 0, 0);
        x.sheet(0, 0, 3);
        x.shelf(1, 1, 0);
        int[][] calls = {{-1, 0}, {4, 0}, {0, 4}, {0, -1}, {1, 0}, {2, 0}, {LEAST, 0}, {0, MOST}};
        for (int[] call : calls) {
            due("an act before", 21, x.act(0, 0, 3));
            due("its trace", 1, x.many(6));
            due("act of " + call[0] + ", " + call[1], 0, x.act(call[0], call[1], 3));
            due("no trace then", 0, x.many(6));
            due("no body", -3, x.trace(0));
        }
    }

    private static void many() {
        PaintedWalls x = new PaintedWalls();
        Check.town(x, "name on 1 hand 4;fresh on 1 hand 4;name on 2 hand 5;kept on 3 size 0;");
        x.move(1, 10);
        x.prove(0, 7);
        x.feed(0, 3);
        x.shelf(0, 0, 2);
        x.act(0, 3, 1);
        int[] want = {4, 1, 2, 3, 7, 3, 3, -1};
        for (int what = 0; what < 8; what++) { due("many " + what, want[what], x.many(what)); }
        due("many -1", -1, x.many(-1));
    }

    private static void keepAgain() {
        PaintedWalls x = new PaintedWalls();
        due("nothing is kept", -3, x.again());
        Check.town(x, "tempted on 1 hand 3 size 40;grown on 1 size 60;wall 1 grey seen 9;wall 7 wax;lure 9;");
        x.set(0, 2);
        x.seed(777);
        x.move(0, 10);
        x.nights(1);
        x.move(1, 10);
        due("keep", 1, x.keep());
        int[] was = all(x);
        for (int times = 0; times < 2; times++) {
            x.nights(9);
            x.night();
            x.set(0, 0);
            x.nights(9);
            x.name(5, 1, 1, 1);
            x.mind(0, 0, 0);
            x.wall(3, 0, 1);
            x.wall(3, 1, 1);
            x.set(3, 3);
            if (times == 1) { due("an empty town", 0, x.town()); }
            due("again", 2, x.again());
            int[] is = all(x);
            for (int i = 0; i < was.length; i++) { due("as it was: " + i, was[i], is[i]); }
        }
        x.town();
        x.keep();
        due("what was kept latest", 0, x.again());
        x.name(0, 0, 0, 0);
        x.move(0, 10);
        x.nights(2);
        x.again();
        x.name(0, 0, 0, 0);
        due("a new one was not away", 0, x.of(0, 4));
    }

    private static int[] all(PaintedWalls x) {
        int[] all = new int[60];
        int at = 0;
        for (int name = 0; name < 2; name++) {
            for (int what = 0; what < 5; what++) { all[at++] = x.of(name, what); }
        }
        for (int wall = 0; wall < 10; wall++) {
            for (int what = 0; what < 2; what++) { all[at++] = x.wallOf(wall, what); }
        }
        for (int law = 0; law < 4; law++) { all[at++] = x.lawOf(law); }
        for (int what = 0; what < 6; what++) { all[at++] = x.state(what); }
        all[at] = x.seed(0);
        x.seed(all[at]);
        return all;
    }

    private static void keepLeavesOut() {
        PaintedWalls x = new PaintedWalls();
        x.name(0, 1, 0, 0);
        x.keep();
        x.feed(0, 3);
        x.prove(0, 2);
        x.sheet(0, 0, 2);
        x.put(0, 1, 9);
        x.shelf(0, 0, 0);
        x.shelf(1, 1, 0);
        x.act(0, 1, 5);
        due("again", 1, x.again());
        due("rows", 2, x.many(4));
        due("tape", 3, x.many(5));
        due("trace", 2, x.many(6));
        due("sheet", 9, x.item(0, 0, 1));
        due("shelf", 0, x.taken(0, 0));
        due("shelf of a row", 2, x.taken(1, 10));
    }
}
