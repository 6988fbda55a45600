/** Promises 1 to 19: a new object, the tape, the laws, names, walls, nights. */
public final class TownTest {
    private static final int LEAST = Integer.MIN_VALUE, MOST = Integer.MAX_VALUE;
    private static final Check CHECK = new Check("TownTest");

    private static void due(String call, long want, long got) {
        CHECK.due(call, want, got);
    }

    public static void main(String[] args) {
        newObject();
        feed();
        townAll();
        townFaults();
        townWords();
        laws();
        name();
        of();
        growsHoldsBack();
        mindPaintMove();
        walls();
        clean();
        nights();
        backAgain();
        buckets();
        draws();
        shy();
        state();
        CHECK.end();
    }

    private static void newObject() {
        PaintedWalls x = new PaintedWalls();
        int[] laws = {1, 2, 30, 20};
        for (int law = 0; law < 4; law++) { due("new lawOf", laws[law], x.lawOf(law)); }
        for (int what = 0; what < 6; what++) { due("new state", 0, x.state(what)); }
        for (int what = 0; what < 7; what++) { due("new many", 0, x.many(what)); }
        for (int wall = 0; wall < 10; wall++) {
            due("new ground", 0, x.wallOf(wall, 0));
            due("new seen", 3, x.wallOf(wall, 1));
            due("new looks", 0, x.wallOf(wall, 2));
            due("new names on", 0, x.wallOf(wall, 3));
        }
        due("nothing kept", PaintedWalls.NONE, x.again());
        due("z at first", 1, x.seed(0));
        for (int i = 0; i < 4; i++) {
            due("sheet missing", -11, x.item(i, 0, 0));
            due("shelf empty", -11, x.taken(i, 0));
        }
        due("BAD", -1, PaintedWalls.BAD);
        due("FULL", -2, PaintedWalls.FULL);
        due("NONE", -3, PaintedWalls.NONE);
    }

    private static void feed() {
        PaintedWalls x = new PaintedWalls();
        due("feed none", -1, x.feed(0, 0));
        due("feed nine", -1, x.feed(0, 9));
        due("feed least", -1, x.feed(0, LEAST));
        due("feed most", -1, x.feed(0, MOST));
        due("tape after BAD", 0, x.many(5));
        for (int i = 1; i <= 24; i++) { due("feed", 8 * i, x.feed(0x2020202020202020L, 8)); }
        due("feed 5", 197, x.feed(0x2020202020202020L, 5));
        due("feed 4 too many", -2, x.feed(0x2020202020202020L, 4));
        due("BAD before FULL", -1, x.feed(0, 9));
        due("tape after FULL", 197, x.many(5));
        due("feed to the brim", 200, x.feed(0x202020L, 3));
        due("feed beyond", -2, x.feed(0x20L, 1));
        due("blanks alone", 0, x.town());
        due("used up", 0, x.many(5));
        // of the eight the lowest first, and no more than n of them
        x.feed(0x3B2031206572756CL, 8);
        due("lure 1;", 0, x.town());
        due("told", 1, x.lawOf(1));
        x.feed(0x5A5A3B206572756CL, 4);
        x.feed(0x58583B3820L, 3);
        due("lure 8;", 0, x.town());
        due("told", 8, x.lawOf(1));
    }

    private static void townAll() {
        PaintedWalls x = new PaintedWalls();
        x.set(0, 9);
        x.set(3, 77);
        x.name(0, 1, 1, 1);
        x.wall(4, 0, 2);
        x.wall(4, 1, 9);
        x.nights(3);
        x.seed(4711);
        x.prove(0, 3);
        due("town", 2, Check.town(x, "kept on 9 hand 8 size 99;tempted on 0;wall 4 grey;wall 3 wax seen 0;wall 3 old; scrub 5 ;lure 9;"));
        due("kind", 5, x.of(0, 0));
        due("hand", 8, x.of(0, 1));
        due("size", 99, x.of(0, 2));
        due("on", 9, x.of(0, 3));
        due("kind", 3, x.of(1, 0));
        due("hand without", 0, x.of(1, 1));
        due("size without", 5, x.of(1, 2));
        due("on", 0, x.of(1, 3));
        due("not told: buckets", 1, x.lawOf(0));
        due("lure", 9, x.lawOf(1));
        due("scrub", 5, x.lawOf(2));
        due("not told: fear", 20, x.lawOf(3));
        due("ground", 1, x.wallOf(4, 0));
        due("seen as at first", 3, x.wallOf(4, 1));
        due("ground told twice", 0, x.wallOf(3, 0));
        due("seen as it is", 0, x.wallOf(3, 1));
        due("nights", 0, x.state(0));
        due("glances", 0, x.state(1));
        due("no rows then", 0, x.many(4));
        due("z stays", 4711, x.seed(0));
        x.prove(0, 3);
        due("fault", -100, Check.town(x, "?"));
        due("rows stay at a fault", 3, x.many(4));
        due("names stay at a fault", 2, x.many(0));
        due("the tape does not", 0, x.many(5));
        due("no text", 0, x.town());
        due("then no names", 0, x.many(0));
        due("laws as at first", 30, x.lawOf(2));
    }

    private static void fault(String text, int place) {
        PaintedWalls x = new PaintedWalls();
        x.set(1, 7);
        due("town of " + text, -100 - place, Check.town(x, text));
        due("nothing changed by " + text, 7, x.lawOf(1));
        due("no name by " + text, 0, x.many(0));
        due("the tape is used up by " + text, 0, x.many(5));
    }

    private static void townFaults() {
        fault(";", 0);
        fault("  3", 2);
        fault("name", 4);
        fault("name on 3", 9);
        fault("name on 3   ", 12);
        fault("name on 3;;", 10);
        fault("name on 10;", 8);
        fault("name on 0001;", 8);
        fault("name 3;", 5);
        fault("nameon 3;", 0);
        fault("names on 3;", 0);
        fault("nam on 3;", 0);
        fault("name on 3 hand 10;", 15);
        fault("name on 3 size 100;", 15);
        fault("name on 3 size 5 hand 2;", 17);
        fault("name on 3 hand;", 14);
        fault("name on 3 hand 2 hand 2;", 17);
        fault("Name on 3;", 0);
        fault("nAme on 3;", 0);
        fault("name\non 3;", 4);
        fault("name on 3\u00e9;", 9);
        fault("name on 3,", 9);
        fault("wall 3;", 6);
        fault("wall 3 red;", 7);
        fault("wall 3 wax seen 10;", 16);
        fault("wall 3 wax seen;", 15);
        fault("wall wax;", 5);
        fault("wall 10 wax;", 5);
        fault("buckets 10;", 8);
        fault("lure 10;", 5);
        fault("scrub 100;", 6);
        fault("fear 100;", 5);
        fault("fear;", 4);
        fault("name on name on 3;", 8);
        fault("name on 3 hand name on 3;", 15);
        fault("name on 3 size name on 3;", 15);
        fault("name on 3 fear 3;", 10);
        fault("wall fear 3;", 5);
        fault("wall 3 fear 3;", 7);
        fault("wall 3 wax fear 3;", 11);
        fault("wall 3 wax seen fear 3;", 16);
        fault("fear fear 3;", 5);
        fault("wall 3 cax;", 7);
        fault("gept on 1;", 0);
        fault("mall 1 old;", 0);
        fault("wall 1 wax hand 1;", 11);
        fault("name on 1 seen 1;", 10);
        fault("kepta on 1;", 0);
        fault("-1", 0);
        fault("name on -1;", 8);
        fault("fear 5 5;", 7);
        fault("lure 1; on 3;", 8);
        fault("name on 1;fresh on 1;covered on 1;kept on 1;name on 1;name on 1;name on 1;name on 1; grown on x;", 85);
    }

    private static void townWords() {
        PaintedWalls x = new PaintedWalls();
        due("digits part words", 1, Check.town(x, "name on3hand2size099;"));
        due("size 099", 99, x.of(0, 2));
        due("blanks where one likes", 1, Check.town(x, "   name   on 007 hand    3   ;    "));
        due("on 007", 7, x.of(0, 3));
        due("eight", 8, Check.town(x, "name on 1;fresh on 1;covered on 1;tempted on 1;grown on 1;kept on 1;name on 2;name on 3;fear 99;"));
        for (int kind = 0; kind < 6; kind++) { due("kind", new int[] {0, 1, 2, 3, 4, 5}[kind], x.of(kind, 0)); }
        due("fear", 99, x.lawOf(3));
        due("walls", 0, Check.town(x, "wall 0 wax seen 0;wall 9 grey seen 9;"));
        due("wall 0", 2, x.wallOf(0, 0));
        due("seen", 0, x.wallOf(0, 1));
        due("wall 9", 1, x.wallOf(9, 0));
        due("seen", 9, x.wallOf(9, 1));
        due("by the last text alone", 0, Check.town(x, "wall 3 old;"));
        due("wall 0", 0, x.wallOf(0, 0));
        due("seen", 3, x.wallOf(0, 1));
        due("wall 9", 0, x.wallOf(9, 0));
        due("a law told twice", 0, Check.town(x, "buckets 3;buckets 0;scrub 99;fear 0;"));
        due("buckets", 0, x.lawOf(0));
        due("scrub", 99, x.lawOf(2));
        due("fear", 0, x.lawOf(3));
    }

    private static void laws() {
        PaintedWalls x = new PaintedWalls();
        int[] most = {9, 9, 99, 99};
        int[] first = {1, 2, 30, 20};
        for (int law = 0; law < 4; law++) {
            due("set", first[law], x.set(law, most[law]));
            due("set 0", most[law], x.set(law, 0));
            due("set too high", -1, x.set(law, most[law] + 1));
            due("set below 0", -1, x.set(law, -1));
            due("lawOf", 0, x.lawOf(law));
        }
        for (int law : new int[] {-1, 4, LEAST, MOST}) {
            due("no such law", -1, x.set(law, 0));
            due("no such law", -1, x.lawOf(law));
        }
    }

    private static void name() {
        PaintedWalls x = new PaintedWalls();
        due("kind 6", -1, x.name(6, 0, 0, 0));
        due("kind -1", -1, x.name(-1, 0, 0, 0));
        due("hand 10", -1, x.name(0, 10, 0, 0));
        due("hand -1", -1, x.name(0, -1, 0, 0));
        due("size 100", -1, x.name(0, 0, 100, 0));
        due("size -1", -1, x.name(0, 0, -1, 0));
        due("wall 10", -1, x.name(0, 0, 0, 10));
        due("wall -1", -1, x.name(0, 0, 0, -1));
        due("none yet", 0, x.many(0));
        for (int i = 0; i < 8; i++) { due("name", i, x.name(i % 6, i, i * 9, 9 - i)); }
        due("a ninth", -2, x.name(0, 0, 0, 0));
        due("BAD before FULL", -1, x.name(0, 0, 100, 0));
        due("eight", 8, x.many(0));
    }

    private static void of() {
        PaintedWalls x = new PaintedWalls();
        due("none", -1, x.of(0, 0));
        x.name(4, 9, 99, 7);
        int[] want = {4, 9, 99, 7, 0, -1};
        for (int what = 0; what < 6; what++) { due("of", want[what], x.of(0, what)); }
        due("of what -1", -1, x.of(0, -1));
        due("of 1", -1, x.of(1, 0));
        due("of -1", -1, x.of(-1, 0));
        x.move(0, 10);
        x.nights(2);
        due("gone", 10, x.of(0, 3));
        due("away", 2, x.of(0, 4));
    }

    private static void does(PaintedWalls x, int kind, int grows, int holds, int back) {
        x.mind(0, kind, 7);
        due("kind " + kind + " grows", 1000 + grows, x.does(0, 0));
        due("kind " + kind + " holds", 1000 + holds, x.does(0, 1));
        due("kind " + kind + " back", 1000 + back, x.does(0, 2));
    }

    private static void growsHoldsBack() {
        PaintedWalls x = new PaintedWalls();
        x.name(0, 7, 11, 2);
        x.set(1, 6);
        does(x, 0, 2, 5, 3);
        does(x, 1, 2, -1, 1);
        does(x, 2, 2, 10, 10);
        does(x, 3, 4, 6, 1);
        does(x, 4, 5, 10, 5);
        does(x, 5, 0, 99, 9);
        x.wall(2, 0, 1);
        x.name(0, 0, 0, 2);
        x.name(0, 0, 0, 2);
        x.name(0, 0, 0, 2);
        x.name(0, 0, 0, 3);
        does(x, 0, 2, 5, 3);
        does(x, 1, 8, -1, 1);
        does(x, 2, -1, 10, 10);
        does(x, 3, 16, 6, 1);
        does(x, 4, 2, 13, 5);
        does(x, 5, 0, 99, 9);
        x.wall(2, 0, 2);
        does(x, 3, 4, 6, 1);
        x.mind(0, 4, 8);
        due("grown back by hand 8", 1005, x.does(0, 2));
        x.mind(0, 4, 9);
        due("grown back by hand 9", 1006, x.does(0, 2));
        x.mind(0, 3, 7);
        x.move(0, 10);
        due("gone grows", -3, x.does(0, 0));
        due("gone holds", -3, x.does(0, 1));
        due("gone back", 1001, x.does(0, 2));
        due("what 3", -1, x.does(0, 3));
        due("what -1", -1, x.does(0, -1));
        due("one -1", -1, x.does(-1, 2));
        due("one 5", -1, x.does(5, 2));
    }

    private static void mindPaintMove() {
        PaintedWalls x = new PaintedWalls();
        due("mind none", -1, x.mind(0, 0, 0));
        due("paint none", -1, x.paint(0, 0));
        due("move none", -1, x.move(0, 0));
        x.name(2, 3, 40, 5);
        due("mind", 2, x.mind(0, 5, 9));
        due("kind", 5, x.of(0, 0));
        due("hand", 9, x.of(0, 1));
        due("mind kind 6", -1, x.mind(0, 6, 0));
        due("mind kind -1", -1, x.mind(0, -1, 0));
        due("mind hand 10", -1, x.mind(0, 0, 10));
        due("mind hand -1", -1, x.mind(0, 0, -1));
        due("kind stays", 5, x.of(0, 0));
        due("paint", 40, x.paint(0, 99));
        due("paint 0", 99, x.paint(0, 0));
        due("paint 100", -1, x.paint(0, 100));
        due("paint -1", -1, x.paint(0, -1));
        due("size", 0, x.of(0, 2));
        due("move 11", -1, x.move(0, 11));
        due("move -1", -1, x.move(0, -1));
        due("move", 5, x.move(0, 9));
        due("move away", 9, x.move(0, 10));
        x.nights(3);
        due("away", 3, x.of(0, 4));
        due("away again", 10, x.move(0, 10));
        due("away stays", 3, x.of(0, 4));
        due("and back", 10, x.move(0, 0));
        due("away no more", 0, x.of(0, 4));
        due("on", 0, x.of(0, 3));
    }

    private static void walls() {
        PaintedWalls x = new PaintedWalls();
        due("ground", 0, x.wall(9, 0, 2));
        due("ground", 2, x.wall(9, 0, 1));
        due("ground 3", -1, x.wall(9, 0, 3));
        due("seen", 3, x.wall(9, 1, 9));
        due("seen 10", -1, x.wall(9, 1, 10));
        due("seen -1", -1, x.wall(9, 1, -1));
        due("what 2", -1, x.wall(9, 2, 0));
        due("what -1", -1, x.wall(9, -1, 0));
        due("wall 10", -1, x.wall(10, 0, 0));
        due("wall -1", -1, x.wall(-1, 0, 0));
        x.name(0, 0, 7, 9);
        x.name(0, 0, 8, 8);
        x.name(0, 0, 9, 9);
        int[] want = {1, 9, 144, 5, -1};
        for (int what = 0; what < 5; what++) { due("wallOf", want[what], x.wallOf(9, what)); }
        due("wallOf what -1", -1, x.wallOf(9, -1));
        due("wallOf 10", -1, x.wallOf(10, 0));
        due("wallOf -1", -1, x.wallOf(-1, 0));
        due("looks", 24, x.wallOf(8, 2));
    }

    private static void clean() {
        PaintedWalls x = new PaintedWalls();
        due("wall 10", -1, x.clean(10));
        due("wall -1", -1, x.clean(-1));
        due("an empty wall", 0, x.clean(3));
        due("is grey then", 1, x.wallOf(3, 0));
        // two grown ones hold 15 + 5 + 1 both as the cleaning begins, though each would hold less alone
        x.name(4, 0, 30, 3);
        x.name(4, 0, 30, 3);
        x.set(2, 20);
        due("both hold", 0, x.clean(3));
        x.set(2, 21);
        due("neither holds", 2, x.clean(3));
        due("gone", 3, x.state(3));
        x.move(0, 4);
        x.move(1, 4);
        x.mind(1, 0, 0);
        x.set(2, 20);
        due("one holds 15, the grown one 21 by it", 1, x.clean(4));
        due("alone it holds 20", 1, x.clean(4));
        PaintedWalls y = new PaintedWalls();
        y.name(5, 0, 0, 6);
        y.name(3, 9, 99, 6);
        y.wall(6, 0, 2);
        y.set(2, 0);
        due("wax: whatever it holds", 1, y.clean(6));
        due("the kept one stays", 6, y.of(0, 3));
        due("gone", 10, y.of(1, 3));
        due("away", 0, y.of(1, 4));
        due("size stays", 99, y.of(1, 2));
        due("wax stays", 2, y.wallOf(6, 0));
        y.wall(6, 0, 0);
        y.set(2, 98);
        due("kept holds 99", 0, y.clean(6));
        y.set(2, 99);
        due("and no more", 1, y.clean(6));
    }

    private static void nights() {
        PaintedWalls x = new PaintedWalls();
        due("0", -1, x.nights(0));
        due("61", -1, x.nights(61));
        due("-1", -1, x.nights(-1));
        due("none passed", 0, x.state(0));
        x.set(0, 0);
        x.name(0, 0, 98, 0);
        x.name(2, 0, 1, 0);
        x.name(2, 0, 50, 0);
        x.name(2, 0, 50, 0);
        // covered by three others each loses 1; a name gains 2, held to 99
        due("a night", 3 * (99 + 0 + 49 + 49), x.nights(1));
        due("held to 99", 99, x.of(0, 2));
        due("held to 0", 3 * (99 + 0 + 48 + 48), x.nights(1));
        due("size", 0, x.of(1, 2));
        due("glances", 3 * (99 + 49 + 49) + 3 * (99 + 48 + 48), x.state(1));
        due("nights", 2, x.state(0));
        due("sixty", 3 * 99, x.nights(60));
        due("nights", 62, x.state(0));
        PaintedWalls y = new PaintedWalls();
        y.set(0, 0);
        for (int i = 0; i < 8; i++) { y.name(5, 0, 99, 0); }
        y.wall(0, 1, 9);
        due("much", 7128, y.nights(14));
        due("glances", 99792, y.state(1));
        due("view is not held", 7128, y.view(1));
        y.nights(1);
        due("glances are held", 99999, y.state(1));
        due("view is not held", 60 * 7128, y.view(60));
    }

    private static void backAgain() {
        PaintedWalls x = new PaintedWalls();
        x.set(0, 0);
        x.name(1, 8, 60, 0);
        x.name(2, 3, 60, 0);
        x.move(0, 10);
        x.move(1, 10);
        // fresh comes behind one night, at once grows by 2; NIGHT is 0 then
        due("a night", 3 * 7, x.nights(1));
        due("on the wall of hand and night", 8, x.of(0, 3));
        due("away", 0, x.of(0, 4));
        due("size", 7, x.of(0, 2));
        x.nights(4);
        due("covered by hand 3 not yet", 10, x.of(1, 3));
        due("away", 5, x.of(1, 4));
        x.nights(1);
        due("behind six, NIGHT 5", 8, x.of(1, 3));
        due("size 5, and 2 less the other one", 6, x.of(1, 2));
        x.move(0, 10);
        x.mind(0, 0, 9);
        x.nights(3);
        due("9 and 8 leave 7", 7, x.of(0, 3));
    }

    private static void buckets() {
        PaintedWalls x = new PaintedWalls();
        x.name(0, 0, 20, 7);
        x.name(0, 0, 20, 4);
        x.name(0, 0, 10, 2);
        x.nights(1);
        due("of several the least", 0b010, x.state(3));
        due("grey", 1 << 4, x.state(5));
        x.set(0, 9);
        x.nights(1);
        due("all are cleaned", 0b111, x.state(3));
        due("grey", 1 << 7 | 1 << 4 | 1 << 2, x.state(5));
        PaintedWalls y = new PaintedWalls();
        y.name(0, 0, 20, 0);
        y.wall(0, 1, 0);
        y.nights(1);
        due("no looks, not cleaned", 0, y.state(3));
        due("nor grey", 0, y.state(5));
        y.wall(0, 1, 1);
        y.mind(0, 2, 0);
        y.name(5, 0, 0, 0);
        y.paint(0, 0);
        y.set(2, 5);
        y.nights(1);
        due("one look is enough", 0b1, y.state(3));
        // a wall may be cleaned twice a night: the grown one holds less once the other has gone
        PaintedWalls z = new PaintedWalls();
        z.name(4, 0, 38, 0);
        z.name(0, 0, 10, 0);
        z.set(2, 26);
        z.set(0, 1);
        z.keep();
        z.nights(1);
        due("once", 0b10, z.state(3));
        z.again();
        z.set(0, 2);
        z.nights(1);
        due("twice", 0b11, z.state(3));
    }

    private static void draws() {
        PaintedWalls x = new PaintedWalls();
        due("no names, no draw", 0, x.night());
        due("z", 1, x.seed(1));
        due("a night all the same", 1, x.state(0));
        x.set(0, 0);
        x.set(3, 99);
        x.name(5, 0, 51, 0);
        x.name(5, 0, 71, 0);
        x.name(5, 0, 91, 0);
        int z = 1 * 1103515245 + 12345;
        int one = (z >>> 16) % 3;
        z = z * 1103515245 + 12345;
        int fear = (z >>> 16) % 100;
        CHECK.isTrue("it is frightened", fear < 99);
        int[] sizes = {51, 71, 91};
        sizes[one] /= 2;
        due("night", 3 * (sizes[0] + sizes[1] + sizes[2]), x.night());
        for (int i = 0; i < 3; i++) { due("size", sizes[i], x.of(i, 2)); }
        due("z after two draws", z, x.seed(-5));
        x.set(3, 0);
        x.night();
        z = (-5 * 1103515245 + 12345) * 1103515245 + 12345;
        due("drawn without fear too", z, x.seed(0));
        for (int i = 0; i < 3; i++) { due("no one frightened", sizes[i], x.of(i, 2)); }
        // fear just as it is drawn does not frighten, one more does
        for (int seed = 1; seed < 40; seed++) {
            int drawn = ((seed * 1103515245 + 12345) * 1103515245 + 12345 >>> 16) % 100;
            for (int law = drawn; law <= drawn + 1 && law <= 99; law++) {
                PaintedWalls w = new PaintedWalls();
                w.name(5, 0, 80, 0);
                w.set(3, law);
                w.seed(seed);
                w.night();
                due("drawn " + drawn + ", fear " + law, drawn < law ? 40 : 80, w.of(0, 2));
            }
        }
        PaintedWalls y = new PaintedWalls();
        y.set(3, 99);
        y.name(5, 0, 90, 0);
        y.move(0, 10);
        y.night();
        due("a gone one is frightened as well", 45, y.of(0, 2));
    }

    private static void shy() {
        PaintedWalls x = new PaintedWalls();
        due("0", -1, x.shy(0));
        due("31", -1, x.shy(31));
        due("no names", 0, x.shy(30));
        x.set(0, 0);
        x.set(3, 50);
        x.name(5, 0, 80, 0);
        x.keep();
        int count = 0;
        for (int i = 0; i < 30; i++) {
            int z = x.seed(0);
            x.again();
            x.seed(z);
            if (x.night() < 240) { count++; }
        }
        x.again();
        due("shy", count, x.shy(30));
        CHECK.isTrue("some, not all", count > 0 && count < 30);
        due("the same again, as z stays", count, x.shy(30));
        int once = 0;
        for (int z = 1; z <= 20; z++) {
            x.seed(z);
            int shy = x.shy(1);
            x.keep();
            due("shy(1) with z " + z, x.night() < 240 ? 1 : 0, shy);
            x.again();
            once += shy;
        }
        CHECK.isTrue("some of them, not all", once > 0 && once < 20);
        x.seed(1);
        due("z", 1, x.seed(1));
        due("size", 80, x.of(0, 2));
        due("nights", 0, x.state(0));
    }

    private static void state() {
        PaintedWalls x = new PaintedWalls();
        x.name(0, 0, 1, 9);
        x.name(0, 0, 2, 9);
        x.name(0, 0, 4, 0);
        x.name(0, 0, 8, 5);
        x.move(1, 10);
        x.move(3, 10);
        x.wall(7, 0, 1);
        x.wall(1, 0, 1);
        x.wall(2, 0, 2);
        int[] want = {0, 0, 15, 0b1010, 1 << 9 | 1, 1 << 7 | 1 << 1, -1};
        for (int what = 0; what < 7; what++) { due("state", want[what], x.state(what)); }
        due("state -1", -1, x.state(-1));
        x.wall(0, 0, 1);
        x.wall(9, 0, 1);
        due("grey", 0b1010000011, x.state(5));
        due("walls with looks", 2, x.many(2));
        x.wall(9, 1, 1);
        due("one look is one", 2, x.many(2));
        x.wall(9, 1, 0);
        due("not seen", 1, x.many(2));
        due("gone", 2, x.many(1));
    }
}
