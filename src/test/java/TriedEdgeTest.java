/** The edges of what is tried, drawn and proved: promises 16 to 18 and 20 to 36. */
public final class TriedEdgeTest {
    private static final int NAME = 0, FRESH = 1, COVERED = 2, TEMPTED = 3, GROWN = 4, KEPT = 5, GONE = 10;
    private static final Check CHECK = new Check("TriedEdgeTest");

    private interface Call {
        long on(PaintedWalls x);
    }

    private static void due(String call, long want, long got) {
        CHECK.due(call, want, got);
    }

    public static void main(String[] args) {
        askedChangesNothing();
        viewOfNoneAndMost();
        staysAtItsEnds();
        comesAtItsEnds();
        clearAtItsEnds();
        firstForEachWall();
        firstForJustSoManyNights();
        groundForEachGround();
        kindForEachKind();
        bucketsForEachCount();
        waxedForFewestThenLeast();
        waxedForAll();
        waxedLetsGo();
        waxedForEachWallInTurn();
        waxedForNights();
        triedWithTheEighth();
        handsOfNoneAndAll();
        fitsEachWall();
        fitsWholeSheets();
        oddsAtTheirEnds();
        hopeAtItsEnds();
        drawsWrap();
        frightIsHalfCut();
        shyAtItsEnds();
        shyCountsFewerAlone();
        rowsAtTheirEnds();
        eachRowAltered();
        readerAtTheEnds();
        CHECK.end();
    }

    private static void askedChangesNothing() {
        Call[] calls = {
            x -> x.lawOf(0), x -> x.of(0, 0), x -> x.does(0, 0), x -> x.does(0, 1), x -> x.does(0, 2),
            x -> x.wallOf(0, 2), x -> x.wallOf(0, 3), x -> x.state(2), x -> x.state(3), x -> x.state(4), x -> x.state(5),
            x -> x.view(0), x -> x.view(60), x -> x.stays(0), x -> x.comes(1), x -> x.clear(), x -> x.firstFor(30),
            x -> x.groundFor(0, 30), x -> x.kindFor(0, 30), x -> x.bucketsFor(30, 0), x -> x.bucketsFor(30, 99999),
            x -> x.waxedFor(10, 0), x -> x.waxedFor(10, 99999), x -> x.hands(0, 0), x -> x.hands(1, 0), x -> x.fits(0, 0, 0),
            x -> x.fits(0, 0, 1), x -> x.odds(8, 4, 0), x -> x.hope(99, 1), x -> x.shy(1), x -> x.shy(30), x -> x.row(0, 0),
            x -> x.judge(0), x -> x.item(0, 0, 0), x -> x.taken(0, 0), x -> x.trace(0), x -> x.many(2)};
        for (Towns town : Towns.values()) {
            String was = Picture.ofAll(town.make());
            for (int i = 0; i < calls.length; i++) {
                PaintedWalls x = town.make();
                calls[i].on(x);
                CHECK.isTrue(town + ": asked " + i + ", nothing changes", was.equals(Picture.ofAll(x)));
            }
        }
    }

    private static PaintedWalls quiet() {
        PaintedWalls x = new PaintedWalls();
        x.set(0, 0);
        return x;
    }

    private static void viewOfNoneAndMost() {
        PaintedWalls x = quiet();
        due("no names", 0, x.view(60));
        x.name(KEPT, 0, 99, 0);
        due("no nights", 0, x.view(0));
        due("one night", 297, x.view(1));
        due("sixty", 60 * 297, x.view(60));
        x.nights(60);
        due("how much more, not how much", 297, x.view(1));
        PaintedWalls y = new PaintedWalls();
        for (int i = 0; i < 8; i++) { y.name(KEPT, i, 99, 9); }
        y.wall(9, 1, 9);
        due("more than glances can be", 427680, y.view(60));
        due("glances", 0, y.state(1));
    }

    private static void staysAtItsEnds() {
        PaintedWalls x = new PaintedWalls();
        x.name(NAME, 0, 20, 0);
        due("behind one", 1, x.stays(0));
        x.move(0, GONE);
        due("gone now", 0, x.stays(0));
        // the kept one's 60 looks take the bucket until the covered one, 1 a night more, has as many on a lesser wall
        PaintedWalls y = new PaintedWalls();
        y.name(COVERED, 0, 0, 0);
        y.name(KEPT, 0, 0, 0);
        y.name(KEPT, 0, 60, 1);
        y.wall(0, 1, 1);
        y.wall(1, 1, 1);
        y.set(2, 99);
        y.mind(2, KEPT, 0);
        y.wall(1, 0, 2);
        due("behind sixty", 60, y.stays(0));
        y.paint(2, 61);
        due("behind 61: not by then", -3, y.stays(0));
        y.paint(2, 59);
        due("behind 59", 59, y.stays(0));
        PaintedWalls z = quiet();
        z.name(NAME, 0, 0, 0);
        due("no bucket", -3, z.stays(0));
    }

    /** Covered by hand 6 it comes each ninth night, and goes again but on wall 8, which nobody sees. */
    private static void comesAtItsEnds() {
        int[] want = {62, 61, 60, 59, 58, 57, 56, 55};
        for (int away = 1; away <= 8; away++) {
            PaintedWalls x = new PaintedWalls();
            x.name(COVERED, 6, 50, 0);
            x.wall(8, 1, 0);
            x.move(0, GONE);
            x.nights(away);
            int nights = want[away - 1];
            due("away " + away, nights <= 60 ? nights : -3, x.comes(0));
        }
        PaintedWalls x = quiet();
        x.name(FRESH, 0, 50, 0);
        due("on now", 0, x.comes(0));
        x.move(0, GONE);
        due("behind one", 1, x.comes(0));
        x.mind(0, COVERED, 9);
        due("behind twelve", 12, x.comes(0));
        x.nights(11);
        due("behind one more", 1, x.comes(0));
    }

    private static void clearAtItsEnds() {
        PaintedWalls x = new PaintedWalls();
        due("no names", 0, x.clear());
        x.name(NAME, 0, 20, 0);
        due("behind one", 1, x.clear());
        x.paint(0, 0);
        due("no size", 0, x.clear());
        x.paint(0, 1);
        x.wall(0, 1, 0);
        due("not seen", 0, x.clear());
        x.wall(0, 1, 1);
        x.move(0, GONE);
        due("gone", 0, x.clear());
        int[][] sizes = {{1, 1}, {2, 2}, {59, 59}, {60, 60}, {61, -3}, {99, -3}};
        for (int[] size : sizes) {
            // covered by three it loses 1 a night; it holds more than is scrubbed
            PaintedWalls y = new PaintedWalls();
            y.name(COVERED, 0, size[0], 9);
            for (int i = 0; i < 3; i++) { y.name(KEPT, 0, 0, 9); }
            y.set(2, 0);
            due("clear from " + size[0], size[1], y.clear());
        }
    }

    private static void firstForEachWall() {
        for (int wall = 0; wall < 10; wall++) {
            PaintedWalls x = quiet();
            x.name(NAME, 0, 20, wall);
            for (int n = 1; n <= 30; n += 29) { due("the one wall", wall, x.firstFor(n)); }
            x.name(NAME, 0, 20, (wall + 3) % 10);
            due("of two the least", Math.min(wall, (wall + 3) % 10), x.firstFor(1));
            x.paint(1, 21);
            due("of two the one looked at more", (wall + 3) % 10, x.firstFor(1));
        }
        PaintedWalls x = quiet();
        due("no names: the least", 0, x.firstFor(30));
        // it holds 38, so cleaning but lures it
        x.name(FRESH, 0, 80, 0);
        due("not the one that it makes grey", 1, x.firstFor(1));
        x.wall(0, 0, 1);
        due("it is grey already: the least", 0, x.firstFor(1));
        x.wall(0, 0, 2);
        due("wax lets it go", 0, x.firstFor(1));
    }

    private static void firstForJustSoManyNights() {
        PaintedWalls x = quiet();
        x.name(NAME, 0, 10, 5);
        x.wall(5, 1, 1);
        x.wall(2, 1, 9);
        // cleaned, it comes on wall 2 behind three nights
        due("saved for two nights", 5, x.firstFor(2));
        due("worse by the third", 0, x.firstFor(3));
    }

    private static void groundForEachGround() {
        // the kept one's 60 looks take the bucket; on grey the fresh one has 63 and goes
        PaintedWalls x = new PaintedWalls();
        x.name(KEPT, 0, 20, 0);
        x.name(FRESH, 0, 17, 9);
        due("grey", 1, x.groundFor(9, 1));
        x.paint(1, 15);
        due("old, for one night", 0, x.groundFor(9, 1));
        due("grey, for two", 1, x.groundFor(9, 2));
        for (int ground = 0; ground < 3; ground++) {
            x.wall(9, 0, ground);
            due("whatever it is now", 1, x.groundFor(9, 2));
            due("it stays", ground, x.wallOf(9, 0));
        }
        PaintedWalls y = new PaintedWalls();
        y.name(NAME, 0, 97, 0);
        due("wax alone lets it go", 2, y.groundFor(0, 1));
        due("and is as good for thirty nights", 2, y.groundFor(0, 30));
        due("another wall: the least", 0, y.groundFor(9, 30));
        y.set(2, 49);
        due("scrubbed from each ground: the least", 0, y.groundFor(0, 1));
        y.set(0, 0);
        y.mind(0, FRESH, 0);
        y.paint(0, 1);
        due("old and wax do not lure: the least", 0, y.groundFor(0, 30));
    }

    private static void kindForEachKind() {
        // in each the kept one has 60 looks and the bucket, unless the first has as many
        int[][] cases = {{18, 0, 0}, {17, 1, 1}, {14, 1, 3}, {15, 0, 4}, {14, 0, 5}};
        for (int[] one : cases) {
            PaintedWalls x = new PaintedWalls();
            x.name(KEPT, 0, one[0], 0);
            x.wall(0, 0, one[1]);
            x.name(KEPT, 0, 20, 1);
            due("of size " + one[0] + " on ground " + one[1], one[2], x.kindFor(0, 1));
            due("it stays", KEPT, x.of(0, 0));
        }
        PaintedWalls x = new PaintedWalls();
        x.name(NAME, 0, 14, 0);
        x.name(KEPT, 0, 20, 1);
        due("for one night", 5, x.kindFor(0, 1));
        due("for two", 3, x.kindFor(0, 2));
        PaintedWalls y = quiet();
        y.name(GROWN, 7, 50, 0);
        for (int i = 0; i < 3; i++) { y.name(KEPT, 0, 0, 0); }
        due("covered shrinks", 2, y.kindFor(0, 1));
        due("and shrinks", 2, y.kindFor(0, 30));
        y.wall(0, 1, 0);
        due("nobody sees it: the least", 0, y.kindFor(0, 30));
        y.move(0, GONE);
        y.mind(0, GROWN, 1);
        due("kept it comes last: behind nine nights", 5, y.kindFor(0, 8));
    }

    private static void bucketsForEachCount() {
        PaintedWalls x = new PaintedWalls();
        for (int i = 0; i < 8; i++) { x.name(NAME, 0, 8, i); }
        x.set(0, 5);
        for (int buckets = 0; buckets <= 8; buckets++) {
            due("just enough", buckets, x.bucketsFor(1, 30 * (8 - buckets)));
            if (buckets > 0) { due("just not enough for one less", buckets, x.bucketsFor(1, 30 * (9 - buckets) - 1)); }
        }
        due("none is needed", 0, x.bucketsFor(1, 99999));
        // none goes again in the second night: 36 looks each
        due("two nights, none", 0, x.bucketsFor(2, 528));
        due("two nights, one", 1, x.bucketsFor(2, 527));
        due("it stays", 5, x.lawOf(0));
        x.mind(0, KEPT, 0);
        due("the kept one's 24 stay", 7, x.bucketsFor(1, 24));
        due("with none", -3, x.bucketsFor(1, 23));
        x.paint(0, 0);
        due("seven walls", 7, x.bucketsFor(1, 0));
        due("no names", 0, new PaintedWalls().bucketsFor(30, 0));
    }

    /** A town of grey walls on which each tempted one grows by 22, each fresh one by 11; by 4 and 2 on wax. */
    private static PaintedWalls lured(int... kindsByWall) {
        PaintedWalls x = quiet();
        x.set(1, 9);
        for (int wall = 0; wall < 10; wall++) {
            x.wall(wall, 0, 1);
            x.wall(wall, 1, 1);
            if (wall < kindsByWall.length && kindsByWall[wall] >= 0) { x.name(kindsByWall[wall], 0, 0, wall); }
        }
        return x;
    }

    private static void waxedForFewestThenLeast() {
        PaintedWalls x = lured(FRESH, FRESH, -1, -1, -1, -1, -1, -1, -1, TEMPTED);
        due("view", 44, x.view(1));
        due("none is needed", 0, x.waxedFor(1, 44));
        due("9 less: of two the least", 1, x.waxedFor(1, 43));
        due("9 less just", 1, x.waxedFor(1, 35));
        due("18 less: fewest, not 0 and 1", 1 << 9, x.waxedFor(1, 34));
        due("18 less just", 1 << 9, x.waxedFor(1, 26));
        due("27 less: of several two the least", 1 << 9 | 1, x.waxedFor(1, 25));
        due("27 less just", 1 << 9 | 1, x.waxedFor(1, 17));
        due("36 less: all three", 1 << 9 | 3, x.waxedFor(1, 16));
        due("36 less just", 1 << 9 | 3, x.waxedFor(1, 8));
        due("more is not to be had", -3, x.waxedFor(1, 7));
        x.name(TEMPTED, 0, 0, 5);
        due("of several the least", 1 << 5, x.waxedFor(1, 48));
        due("two tempted ones' walls", 1 << 9 | 1 << 5, x.waxedFor(1, 66 - 36));
        due("with one of 0 and 1", 1 << 9 | 1 << 5 | 1, x.waxedFor(1, 66 - 45));
        due("all", 1 << 9 | 1 << 5 | 3, x.waxedFor(1, 66 - 54));
        due("grounds stay", 1023, x.state(5));
        x.wall(9, 0, 2);
        due("waxed already, it is not of the set", 1 << 5, x.waxedFor(1, 48 - 18));
        due("the most looks", 0, x.waxedFor(10, 99999));
    }

    private static void waxedForAll() {
        PaintedWalls x = lured(FRESH, FRESH, FRESH, FRESH, -1, FRESH, -1, FRESH, FRESH, FRESH);
        due("all eight", 0b1110101111, x.waxedFor(1, 16));
        due("none beyond", -3, x.waxedFor(1, 15));
        due("seven of eight: the least", 0b0110101111, x.waxedFor(1, 25));
        due("none", 0, x.waxedFor(1, 88));
        PaintedWalls y = new PaintedWalls();
        due("no names, no looks", 0, y.waxedFor(1, 0));
        y.name(KEPT, 0, 1, 0);
        due("kept stays on wax", -3, y.waxedFor(10, 0));
        y.wall(0, 1, 0);
        due("nobody sees it", 0, y.waxedFor(10, 0));
    }

    /** Wax lets go what no scrubbing does, but for kept ones; it needs a bucket for that. */
    private static void waxedLetsGo() {
        for (int wall = 0; wall < 10; wall += 9) {
            for (int kind = 0; kind < 6; kind++) {
                PaintedWalls x = new PaintedWalls();
                x.name(kind, 9, 97, wall);
                x.set(2, 0);
                due("kind " + kind, kind == KEPT ? -3 : 1 << wall, x.waxedFor(1, 0));
                due("all it is", 0, x.waxedFor(1, 297));
                x.set(0, 0);
                due("without a bucket", -3, x.waxedFor(1, 0));
            }
        }
    }

    /** By hand 0 it comes ON another wall each night: it goes from wax, but on grey it grows so that it holds. */
    private static void waxedForEachWallInTurn() {
        PaintedWalls x = lured();
        x.set(0, 1);
        x.set(2, 0);
        x.name(TEMPTED, 0, 0, 0);
        x.move(0, GONE);
        for (int n = 1; n <= 10; n++) {
            due("all walls for " + n + " nights", (1 << n) - 1, x.waxedFor(n, 0));
            due("it may stay on the last one", (1 << n - 1) - 1, x.waxedFor(n, 27));
            due("not with one look less", (1 << n) - 1, x.waxedFor(n, 26));
        }
        due("two nights on the ninth", 255, x.waxedFor(10, 27 + 49));
        due("not with one look less", 511, x.waxedFor(10, 27 + 48));
    }

    private static void waxedForNights() {
        PaintedWalls x = lured(TEMPTED, FRESH);
        // on grey 22 + 44 and 11 + 22, on wax 4 + 8 and 2 + 4
        due("two nights", 0, x.waxedFor(2, 99));
        due("the fresh one is not enough", 1, x.waxedFor(2, 98 - 27));
        due("the tempted one just", 1, x.waxedFor(2, 99 - 54));
        due("both", 3, x.waxedFor(2, 99 - 55));
        due("both just", 3, x.waxedFor(2, 18));
        due("none", -3, x.waxedFor(2, 17));
        // one comes on wall 5 in the second night: wax there counts, though nobody is there now
        PaintedWalls y = lured();
        y.name(TEMPTED, 5, 0, 0);
        y.move(0, GONE);
        due("comes on a waxed wall", 1 << 5, y.waxedFor(1, 9));
        due("of size 5 and 4", -3, y.waxedFor(1, 8));
        due("or on a grey one", 0, y.waxedFor(1, 27));
        due("ten nights", 1 << 5, y.waxedFor(10, 10 * 5 + 4 * 55));
        due("one less", -3, y.waxedFor(10, 10 * 5 + 4 * 55 - 1));
    }

    /** What is tried goes from all of the eight, the last one's HAND and AWAY too. */
    private static void triedWithTheEighth() {
        for (int away = 0; away < 12; away++) {
            PaintedWalls x = quiet();
            for (int i = 0; i < 8; i++) { x.name(i == 7 ? COVERED : KEPT, i == 7 ? 9 : 4, 99 - i, i); }
            x.move(7, GONE);
            if (away > 0) { x.nights(away); }
            due("comes", 12 - away, x.comes(7));
            due("rows", 10, x.prove(7, 10));
            for (int i = 0; i < 10; i++) {
                boolean isOn = away + i + 1 >= 12;
                due("night " + i + " wall", isOn ? 0 : 10, x.row(i, 0));
                // comes ON the first kept one's wall: covered by one
                due("night " + i + " size", isOn ? 6 + away + i - 11 : 92, x.row(i, 1));
            }
            due("gone now", 0, x.stays(7));
        }
    }

    private static void handsOfNoneAndAll() {
        PaintedWalls x = new PaintedWalls();
        due("none", 0, x.hands(0, 0));
        for (int i = 0; i < 8; i++) {
            x.name(i % 6, 9 - i, 0, 0);
            due("so many hands", i + 1, x.hands(0, 0));
            due("its own alone", 1 << i, x.hands(1, i));
        }
        for (int i = 0; i < 8; i++) { x.mind(i, 0, 9); }
        due("one hand", 1, x.hands(0, 0));
        x.move(7, GONE);
        for (int i = 0; i < 8; i++) { due("all, gone ones too", 255, x.hands(1, i)); }
        x.mind(0, 0, 0);
        x.mind(7, 0, 0);
        due("the first and the last", 0b10000001, x.hands(1, 7));
        due("the others", 0b01111110, x.hands(1, 1));
        due("two hands", 2, x.many(3));
    }

    /** A fresh one that is GONE comes behind one night ON the WALL that its HAND and NIGHT leave. */
    private static void fitsEachWall() {
        for (int sort = 0; sort < 4; sort++) {
            PaintedWalls x = quiet();
            x.name(FRESH, 4, 50, 0);
            x.move(0, GONE);
            x.sheet(3, sort, 1);
            for (int wall = 0; wall < 10; wall++) {
                x.put(3, 0, wall);
                due("one hand comes on wall " + wall, 1, x.fits(3, 0, 0));
                due("which", wall, x.fits(3, 0, 1));
            }
            x.put(3, 0, -1);
            due("any", 10, x.fits(3, 0, 0));
            due("the least", 0, x.fits(3, 0, 1));
            for (int none : new int[] {10, 11, -2, 99, 127, -128}) {
                x.put(3, 0, none);
                due("none is on " + none, 0, x.fits(3, 0, 0));
                due("none is on " + none, -3, x.fits(3, 0, 1));
            }
            x.put(3, 0, 65536 + 256 + 9);
            due("as it is narrowed", sort == 0 ? 1 : 0, x.fits(3, 0, 0));
            x.put(3, 0, 65536 + 9);
            due("as it is narrowed", sort < 2 ? 9 : -3, x.fits(3, 0, 1));
            x.mind(0, NAME, 4);
            x.put(3, 0, 10);
            due("gone", 10, x.fits(3, 0, 0));
            due("its hand stays", 4, x.of(0, 1));
        }
        PaintedWalls x = quiet();
        x.name(KEPT, 4, 50, 7);
        x.sheet(0, 0, 2);
        x.put(0, 0, 7);
        x.put(0, 1, 7);
        due("it stays where it is by all hands", 10, x.fits(0, 0, 0));
        x.put(0, 1, 6);
        due("the second number", 0, x.fits(0, 0, 0));
        x.put(0, 1, 7);
        x.put(0, 0, 6);
        due("the first number", 0, x.fits(0, 0, 0));
    }

    private static void fitsWholeSheets() {
        PaintedWalls x = quiet();
        x.name(KEPT, 0, 50, 7);
        x.name(COVERED, 8, 50, 7);
        x.sheet(0, 0, 0);
        due("no numbers: all hands", 10, x.fits(0, 0, 0));
        due("the least", 0, x.fits(0, 1, 1));
        x.sheet(0, 0, 40);
        for (int i = 0; i < 39; i++) { x.put(0, i, -1); }
        x.put(0, 39, 7);
        due("forty nights", 10, x.fits(0, 0, 0));
        x.put(0, 39, 8);
        due("the last number counts", 0, x.fits(0, 0, 0));
        // covered, by hand h it comes behind 3 + h nights on h + NIGHT
        x.move(1, GONE);
        for (int hand = 0; hand < 10; hand++) {
            x.put(0, 39, (hand + hand + 2) % 10);
            for (int i = 0; i < 12; i++) { x.put(0, i, i < hand + 2 ? 10 : -1); }
            x.put(0, hand + 2, (hand + hand + 2) % 10);
            due("by hand " + hand + " alone", 1, x.fits(0, 1, 0));
            due("by hand " + hand, hand, x.fits(0, 1, 1));
        }
    }

    private static void oddsAtTheirEnds() {
        PaintedWalls x = new PaintedWalls();
        long[] choose = {1, 8, 28, 56, 70, 56, 28, 8, 1};
        x.set(3, 50);
        for (int k = 0; k <= 8; k++) {
            long by = choose[k] & -choose[k];
            due(k + " of 8 by half", choose[k] / by, x.odds(8, k, 0));
            due("below", 256 / by, x.odds(8, k, 1));
        }
        x.set(3, 0);
        for (int k = 0; k <= 8; k++) {
            due("without fear", k == 0 ? 1 : 0, x.odds(8, k, 0));
            due("by 1", 1, x.odds(8, k, 1));
        }
        for (int fear = 0; fear < 100; fear += 33) {
            x.set(3, fear);
            due("0 of 0", 1, x.odds(0, 0, 0));
            due("0 of 0, below", 1, x.odds(0, 0, 1));
        }
        x.set(3, 99);
        due("all of 8", 9227446944279201L, x.odds(8, 8, 0));
        due("below", 10000000000000000L, x.odds(8, 8, 1));
        due("none of 8", 1, x.odds(8, 0, 0));
        due("1 of 1", 99, x.odds(1, 1, 0));
        due("0 of 1", 1, x.odds(1, 0, 0));
        due("below", 100, x.odds(1, 0, 1));
        x.set(3, 1);
        due("none of 8", 9227446944279201L, x.odds(8, 0, 0));
        due("7 of 8", 99, x.odds(8, 7, 0));
        due("below: 8 is parted from it", 1250000000000000L, x.odds(8, 7, 1));
        x.set(3, 25);
        due("1 of 2", 3, x.odds(2, 1, 0));
        due("below", 8, x.odds(2, 1, 1));
        due("2 of 3", 9, x.odds(3, 2, 0));
        due("below", 64, x.odds(3, 2, 1));
    }

    private static void hopeAtItsEnds() {
        PaintedWalls x = new PaintedWalls();
        int[][] hopes = {{20, 0, 0, 1}, {20, 1, 1, 5}, {20, 4, 4, 5}, {20, 5, 1, 1}, {20, 99, 99, 5}, {0, 99, 0, 1}, {0, 0, 0, 1},
            {99, 99, 9801, 100}, {99, 0, 0, 1}, {99, 1, 99, 100}, {50, 99, 99, 2}, {50, 98, 49, 1}, {1, 99, 99, 100}, {1, 50, 1, 2}};
        for (int[] hope : hopes) {
            x.set(3, hope[0]);
            due(hope[1] + " nights by fear " + hope[0], hope[2], x.hope(hope[1], 0));
            due("below", hope[3], x.hope(hope[1], 1));
        }
    }

    private static int next(int z) {
        return z * 1103515245 + 12345;
    }

    private static void drawsWrap() {
        int[] seeds = {0, 1, -1, Integer.MIN_VALUE, Integer.MAX_VALUE, 123456789, -123456789, 42};
        for (int seed : seeds) {
            for (int names = 1; names <= 8; names++) {
                PaintedWalls x = quiet();
                for (int i = 0; i < names; i++) { x.name(KEPT, 0, 90 + i, 0); }
                x.set(3, 99);
                due("what z was", 1, x.seed(seed));
                x.night();
                int first = next(seed);
                int second = next(first);
                int one = (first >>> 16) % names;
                boolean isFrightened = (second >>> 16) % 100 < 99;
                for (int i = 0; i < names; i++) {
                    due("size of " + i + " by seed " + seed, isFrightened && i == one ? (90 + i) / 2 : 90 + i, x.of(i, 2));
                }
                due("two draws", second, x.seed(seed));
                due("what it was set to", seed, x.seed(0));
            }
        }
        PaintedWalls x = new PaintedWalls();
        x.seed(Integer.MIN_VALUE);
        due("no names", 0, x.night());
        due("no draws", Integer.MIN_VALUE, x.seed(0));
        due("a night", 1, x.state(0));
    }

    private static void frightIsHalfCut() {
        int[][] halves = {{0, 0}, {1, 0}, {2, 1}, {3, 1}, {98, 49}, {99, 49}};
        for (int[] half : halves) {
            PaintedWalls x = quiet();
            x.set(3, 99);
            x.seed(1);
            x.name(KEPT, 0, half[0], 0);
            due("looks", 3 * half[1], x.night());
            due("half of it", half[1], x.of(0, 2));
            x.mind(0, NAME, 0);
            x.paint(0, half[0]);
            x.seed(1);
            x.night();
            due("it grows behind that", half[1] + 2, x.of(0, 2));
            x.move(0, GONE);
            x.paint(0, half[0]);
            x.seed(1);
            x.night();
            due("gone, it is half as well", half[1], x.of(0, 2));
        }
        // the least FEAR that frightens is one above what is drawn
        for (int seed = 0; seed < 30; seed++) {
            int drawn = (next(next(seed)) >>> 16) % 100;
            for (int fear : new int[] {0, drawn - 1, drawn, drawn + 1, 99}) {
                PaintedWalls x = quiet();
                if (x.set(3, fear) < 0) { continue; }
                x.name(KEPT, 0, 80, 0);
                x.seed(seed);
                due("drawn " + drawn + ", fear " + fear, drawn < fear ? 120 : 240, x.night());
            }
        }
    }

    private static int shyByHand(int seed, int fear, int n) {
        int z = seed;
        int count = 0;
        for (int i = 0; i < n; i++) {
            z = next(next(z));
            if ((z >>> 16) % 100 < fear) { count++; }
        }
        return count;
    }

    private static void shyAtItsEnds() {
        PaintedWalls x = quiet();
        due("no names", 0, x.shy(30));
        x.name(KEPT, 0, 80, 0);
        for (int fear : new int[] {0, 1, 50, 99}) {
            x.set(3, fear);
            for (int seed : new int[] {0, 1, -1, 77, Integer.MIN_VALUE}) {
                x.seed(seed);
                for (int n : new int[] {1, 2, 3, 29, 30}) { due("shy of " + n + " by fear " + fear, shyByHand(seed, fear, n), x.shy(n)); }
                due("z stays", seed, x.seed(0));
            }
        }
        due("each tried from how all is now", 80, x.of(0, 2));
        // glances held at the most: what would come is counted all the same
        for (int i = 1; i < 8; i++) { x.name(KEPT, 0, 99, 0); }
        x.wall(0, 1, 9);
        x.nights(20);
        due("held", 99999, x.state(1));
        x.set(3, 99);
        x.seed(5);
        due("not held", shyByHand(5, 99, 30), x.shy(30));
    }

    private static void shyCountsFewerAlone() {
        PaintedWalls x = quiet();
        x.set(3, 99);
        x.seed(5);
        x.name(KEPT, 0, 80, 0);
        CHECK.isTrue("most frighten", x.shy(30) > 20);
        x.wall(0, 1, 0);
        due("nobody sees it: as many, not fewer", 0, x.shy(30));
        x.wall(0, 1, 1);
        x.paint(0, 0);
        due("no size to lose", 0, x.shy(30));
        x.paint(0, 1);
        due("one look fewer", shyByHand(5, 99, 30), x.shy(30));
        x.move(0, GONE);
        due("gone", 0, x.shy(30));
        // the name, frightened, has less than the kept one and is not cleaned: so more is seen, not fewer
        PaintedWalls y = new PaintedWalls();
        y.set(3, 99);
        y.seed(5);
        y.name(NAME, 0, 50, 0);
        y.name(KEPT, 0, 40, 1);
        due("the name goes", 120, y.view(1));
        int z = 5;
        int kept = 0;
        for (int i = 0; i < 30; i++) {
            int first = next(z);
            z = next(first);
            if ((first >>> 16) % 2 == 1 && (z >>> 16) % 100 < 99) { kept++; }
        }
        CHECK.isTrue("both are frightened now and then", kept > 0 && kept < 29);
        due("the kept one's alone count", kept, y.shy(30));
    }

    private static void rowsAtTheirEnds() {
        PaintedWalls x = quiet();
        x.name(NAME, 3, 1, 9);
        x.name(FRESH, 7, 50, 0);
        x.move(1, GONE);
        for (int n = 1; n <= 10; n++) {
            due("prove", n, x.prove(0, n));
            due("rows", n, x.many(4));
            for (int i = 0; i < n; i++) {
                due("wall", 9, x.row(i, 0));
                due("size", 3 + 2 * i, x.row(i, 1));
                due("looks of all", 3 * (3 + 2 * i + 7 + 2 * i), x.row(i, 2));
            }
            due("no more", -9, x.row(n, 0));
        }
        due("of a gone one", 1, x.prove(1, 1));
        due("on", 7, x.row(0, 0));
        due("one row alone", -9, x.row(1, 0));
        x.mind(1, COVERED, 0);
        x.prove(1, 2);
        due("gone", 10, x.row(1, 0));
        due("its size", 50, x.row(1, 1));
        x.nights(5);
        due("rows stay as they were", 10, x.row(1, 0));
        due("what it was", 50, x.alterRow(1, 1, Integer.MIN_VALUE));
        due("what it was then", Integer.MIN_VALUE, x.alterRow(1, 1, -9));
        due("a row may tell -9", -9, x.row(1, 1));
        due("another stays", 10, x.row(1, 0));
        due("two", 2, x.many(4));
        x.town();
        due("a new town has none", 0, x.many(4));
        due("none", -9, x.row(0, 0));
    }

    private static void eachRowAltered() {
        PaintedWalls x = quiet();
        x.name(NAME, 3, 1, 9);
        x.prove(0, 10);
        for (int i = 0; i < 10; i++) {
            int[] was = {9, 3 + 2 * i, 9 + 6 * i};
            for (int what = 0; what < 3; what++) { due("what it was", was[what], x.alterRow(i, what, 100 * i + what)); }
        }
        for (int i = 0; i < 10; i++) {
            for (int what = 0; what < 3; what++) { due("what it became", 100 * i + what, x.row(i, what)); }
        }
        due("ten", 10, x.many(4));
    }

    private static void readerAtTheEnds() {
        PaintedWalls x = quiet();
        x.name(NAME, 3, 1, 9);
        x.name(NAME, 3, 1, 9);
        x.name(KEPT, 3, 1, 9);
        due("no rows", 0, x.judge(0));
        for (int n = 1; n <= 10; n++) {
            x.prove(0, n);
            due("right", 0, x.judge(0));
            due("as of one like it", 0, x.judge(1));
            due("not of another", 1, x.judge(2));
            for (int i = 0; i < n; i += Math.max(1, n - 1)) {
                for (int what = 0; what < 3; what++) {
                    int was = x.row(i, what);
                    for (int v : new int[] {was - 1, was + 1}) {
                        x.alterRow(i, what, v);
                        due("row " + i + " is wrong", i + 1, x.judge(0));
                    }
                    x.alterRow(i, what, was);
                }
            }
            due("right again", 0, x.judge(0));
        }
        x.alterRow(9, 1, 0);
        x.alterRow(8, 2, 0);
        due("the first that isn't", 9, x.judge(0));
        x.paint(2, 2);
        due("looks of all are others now", 1, x.judge(0));
    }
}
