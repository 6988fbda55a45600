/** Promises 20 to 36: what is tried, hands, odds, rows and their reader. */
public final class TriedTest {
    private static final Check CHECK = new Check("TriedTest");

    private static void due(String call, long want, long got) {
        CHECK.due(call, want, got);
    }

    public static void main(String[] args) {
        view();
        staysComes();
        clear();
        firstFor();
        groundFor();
        kindFor();
        bucketsFor();
        waxedFor();
        hands();
        fits();
        odds();
        hope();
        rows();
        judge();
        nothingChanges();
        CHECK.end();
    }

    private static void view() {
        PaintedWalls x = new PaintedWalls();
        x.set(0, 0);
        x.name(0, 0, 10, 0);
        due("view 0", 0, x.view(0));
        due("view 1", 36, x.view(1));
        due("view 3", 36 + 42 + 48, x.view(3));
        due("view 61", -1, x.view(61));
        due("view -1", -1, x.view(-1));
        x.nights(2);
        due("how much more", 48, x.view(1));
        due("glances", 78, x.state(1));
    }

    private static void staysComes() {
        PaintedWalls x = new PaintedWalls();
        due("stays none", -1, x.stays(0));
        due("comes none", -1, x.comes(0));
        x.name(0, 0, 40, 0);
        x.name(5, 0, 90, 1);
        due("stays -1", -1, x.stays(-1));
        due("comes 2", -1, x.comes(2));
        // the bucket goes to the kept one night for night, and never to the name
        due("stays", -3, x.stays(0));
        due("comes at once", 0, x.comes(0));
        x.wall(1, 1, 0);
        due("cleaned behind a night", 1, x.stays(0));
        due("not looked at", -3, x.stays(1));
        x.move(0, 10);
        due("gone at once", 0, x.stays(0));
        due("cleaned in the night it comes, until it comes on the wall that nobody sees", 12, x.comes(0));
        x.set(0, 0);
        due("back behind three", 3, x.comes(0));
        PaintedWalls y = new PaintedWalls();
        y.set(0, 1);
        y.set(2, 0);
        y.name(5, 0, 0, 0);
        y.name(0, 0, 0, 1);
        y.wall(1, 0, 2);
        y.wall(1, 1, 1);
        y.paint(0, 20);
        // the kept one's wall has 60 looks; the name's wall has more of them behind 31 nights (62)
        due("behind 31", 31, y.stays(1));
        // covered by one other it grows by 1 a night: so many looks behind so many nights
        y.mind(1, 2, 0);
        y.name(5, 0, 0, 1);
        y.wall(0, 1, 1);
        y.paint(0, 59);
        due("behind sixty", 60, y.stays(1));
        y.paint(0, 60);
        due("not by then", -3, y.stays(1));
    }

    private static void clear() {
        PaintedWalls x = new PaintedWalls();
        due("no names", 0, x.clear());
        x.name(0, 0, 40, 0);
        x.name(0, 0, 30, 1);
        x.name(0, 0, 20, 2);
        // one a night is cleaned; the first is back behind three more nights
        due("behind three", 3, x.clear());
        x.set(0, 9);
        due("behind one", 1, x.clear());
        x.set(0, 0);
        due("never", -3, x.clear());
        for (int wall = 0; wall < 10; wall++) { x.wall(wall, 1, 0); }
        due("not seen", 0, x.clear());
        // covered by three others that have no size it shrinks by 1 a night
        PaintedWalls y = new PaintedWalls();
        y.set(2, 0);
        y.name(2, 0, 60, 0);
        for (int i = 0; i < 3; i++) { y.name(5, 0, 0, 0); }
        due("behind sixty", 60, y.clear());
        y.paint(0, 61);
        due("not by then", -3, y.clear());
    }

    private static void firstFor() {
        PaintedWalls x = new PaintedWalls();
        due("0", -1, x.firstFor(0));
        due("31", -1, x.firstFor(31));
        due("none: the least", 0, x.firstFor(30));
        x.set(0, 0);
        x.name(0, 0, 40, 6);
        x.name(0, 0, 40, 3);
        x.name(0, 0, 30, 5);
        due("of several the least", 3, x.firstFor(1));
        x.wall(5, 1, 9);
        due("more seen", 5, x.firstFor(1));
        x.set(2, 14);
        due("nothing goes", 0, x.firstFor(1));
        due("nothing was cleaned", 0, x.state(5));
    }

    private static void groundFor() {
        PaintedWalls x = new PaintedWalls();
        due("0", -1, x.groundFor(0, 0));
        due("31", -1, x.groundFor(0, 31));
        due("wall 10", -1, x.groundFor(10, 1));
        due("wall -1", -1, x.groundFor(-1, 1));
        x.name(3, 9, 80, 4);
        x.wall(4, 0, 1);
        due("wax lets it go", 2, x.groundFor(4, 1));
        x.set(0, 0);
        due("old does not lure", 0, x.groundFor(4, 30));
        due("another wall", 0, x.groundFor(5, 30));
        due("ground", 1, x.wallOf(4, 0));
    }

    private static void kindFor() {
        PaintedWalls x = new PaintedWalls();
        due("none", -1, x.kindFor(0, 1));
        x.name(0, 0, 40, 0);
        due("0", -1, x.kindFor(0, 0));
        due("31", -1, x.kindFor(0, 31));
        due("name is cleaned at once, as are others: the least", 0, x.kindFor(0, 1));
        x.set(0, 0);
        due("kept does not grow", 5, x.kindFor(0, 1));
        due("30", 5, x.kindFor(0, 30));
        x.wall(0, 1, 0);
        due("not seen: the least", 0, x.kindFor(0, 30));
        x.wall(0, 1, 3);
        x.name(5, 0, 9, 0);
        x.name(5, 0, 9, 0);
        x.name(5, 0, 9, 0);
        due("covered by three it shrinks", 2, x.kindFor(0, 1));
        due("kind", 0, x.of(0, 0));
    }

    private static void bucketsFor() {
        PaintedWalls x = new PaintedWalls();
        due("0", -1, x.bucketsFor(0, 0));
        due("31", -1, x.bucketsFor(31, 0));
        due("v -1", -1, x.bucketsFor(1, -1));
        due("v 100000", -1, x.bucketsFor(1, 100000));
        for (int wall = 0; wall < 4; wall++) { x.name(0, 0, 8, wall); }
        for (int b = 0; b <= 4; b++) {
            due("just enough", b, x.bucketsFor(1, 30 * (4 - b)));
            if (b < 4) { due("one less", b + 1, x.bucketsFor(1, 30 * (4 - b) - 1)); }
        }
        x.name(5, 0, 1, 9);
        due("with none", -3, x.bucketsFor(1, 2));
        due("but for the kept one", 4, x.bucketsFor(1, 3));
        due("v 99999", 0, x.bucketsFor(1, 99999));
        due("n 30", 0, x.bucketsFor(30, 99999));
        // grown ones keep one another: the last of eight goes with the ninth bucket
        PaintedWalls y = new PaintedWalls();
        for (int i = 0; i < 7; i++) { y.name(4, 9, 20 - 2 * i, 0); }
        y.set(2, 12);
        int least = -3;
        for (int b = 9; b >= 0; b--) {
            y.set(0, b);
            if (y.view(1) == 0) { least = b; }
        }
        due("tried by hand", least, y.bucketsFor(1, 0));
        due("buckets", 1, x.lawOf(0));
    }

    private static void waxedFor() {
        PaintedWalls x = new PaintedWalls();
        due("0", -1, x.waxedFor(0, 0));
        due("11", -1, x.waxedFor(11, 0));
        due("v -1", -1, x.waxedFor(1, -1));
        due("v 100000", -1, x.waxedFor(1, 100000));
        due("none", 0, x.waxedFor(10, 0));
        due("v 99999", 0, x.waxedFor(10, 99999));
        x.set(2, 0);
        for (int wall = 2; wall < 9; wall += 2) { x.name(0, 0, 12, wall); }
        x.set(0, 2);
        // 14 big each behind a night; two are cleaned a night, but go on wax alone
        due("none needed", 0, x.waxedFor(1, 168));
        due("the least one", 1 << 2, x.waxedFor(1, 167));
        due("one is enough", 1 << 2, x.waxedFor(1, 126));
        // a cleaned one that stays is cleaned again in its stead: so not 4 and 6, but 2 and 4
        due("two", 1 << 2 | 1 << 4, x.waxedFor(1, 125));
        due("more than two buckets", -3, x.waxedFor(1, 83));
        x.wall(2, 0, 2);
        x.wall(2, 1, 4);
        due("waxed already", 1 << 4, x.waxedFor(1, 84));
        due("ground", 0, x.wallOf(4, 0));
        PaintedWalls y = new PaintedWalls();
        y.set(0, 9);
        y.set(2, 0);
        for (int i = 0; i < 8; i++) { y.name(0, 0, 90, 9 - i); }
        due("eight", 1020, y.waxedFor(1, 0));
        due("all nights", 1020, y.waxedFor(3, 0));
        for (int i = 0; i < 8; i++) { y.move(i, i < 4 ? i : i + 2); }
        due("walls 0 and 9 too", 0b1111001111, y.waxedFor(3, 0));
        for (int i = 1; i < 8; i++) { y.move(i, 0); }
        due("wall 0 alone", 1, y.waxedFor(3, 0));
    }

    private static void hands() {
        PaintedWalls x = new PaintedWalls();
        due("none", 0, x.hands(0, 0));
        due("same of none", -1, x.hands(1, 0));
        x.name(0, 7, 1, 0);
        x.name(1, 3, 1, 0);
        x.name(2, 7, 1, 0);
        x.name(3, 0, 1, 0);
        x.move(2, 10);
        due("hands", 3, x.hands(0, -77));
        due("same", 0b101, x.hands(1, 0));
        due("same", 0b10, x.hands(1, 1));
        due("same of a gone one", 0b101, x.hands(1, 2));
        due("one 4", -1, x.hands(1, 4));
        due("one -1", -1, x.hands(1, -1));
        due("what 2", -1, x.hands(2, 0));
        due("what -1", -1, x.hands(-1, 0));
        due("many", 3, x.many(3));
        x.mind(0, 0, 9);
        due("by another hand", 4, x.hands(0, 0));
        due("same", 0b1, x.hands(1, 0));
    }

    private static void fits() {
        PaintedWalls x = new PaintedWalls();
        x.set(0, 0);
        x.name(2, 0, 50, 0);
        x.move(0, 10);
        for (int sheet : new int[] {-1, 4}) { due("no such sheet", -1, x.fits(sheet, 0, 0)); }
        due("no such one", -1, x.fits(0, 1, 0));
        due("what 2", -1, x.fits(0, 0, 2));
        due("what -1", -1, x.fits(0, 0, -1));
        due("BAD before -11", -1, x.fits(0, 1, 0));
        due("missing", -11, x.fits(0, 0, 1));
        x.sheet(0, 0, 0);
        due("no numbers: all", 10, x.fits(0, 0, 0));
        due("the least", 0, x.fits(0, 0, 1));
        for (int sort = 0; sort < 4; sort++) {
            x.sheet(0, sort, 5);
            for (int i = 0; i < 5; i++) { x.put(0, i, -1); }
            due("any: all", 10, x.fits(0, 0, 0));
            // covered: back behind 3 + hand nights, ON hand + NIGHT: hand 1 behind the fourth (NIGHT 3) ON 4
            x.put(0, 2, 10);
            due("gone behind three: all but hand 0", 9, x.fits(0, 0, 0));
            x.put(0, 3, 4);
            due("ON 4 behind four", 1, x.fits(0, 0, 0));
            due("by hand 1", 1, x.fits(0, 0, 1));
            x.put(0, 0, 4);
            due("none", 0, x.fits(0, 0, 0));
            due("none", -3, x.fits(0, 0, 1));
            x.put(0, 0, 11);
            due("no wall 11", 0, x.fits(0, 0, 0));
            x.put(0, 0, -2);
            due("no wall -2", 0, x.fits(0, 0, 0));
        }
        due("hand", 0, x.of(0, 1));
    }

    private static void odds() {
        PaintedWalls x = new PaintedWalls();
        due("0 of 0", 1, x.odds(0, 0, 0));
        due("0 of 0 below", 1, x.odds(0, 0, 1));
        due("1 of 1", 1, x.odds(1, 1, 0));
        due("below", 5, x.odds(1, 1, 1));
        due("1 of 2", 8, x.odds(2, 1, 0));
        due("below", 25, x.odds(2, 1, 1));
        x.set(3, 99);
        due("4 of 8", 70L * 99 * 99 * 99 * 99 / 10, x.odds(8, 4, 0));
        due("below", 1000000000000000L, x.odds(8, 4, 1));
        due("0 of 8", 1, x.odds(8, 0, 0));
        due("below", 10000000000000000L, x.odds(8, 0, 1));
        x.set(3, 0);
        due("none without fear", 1, x.odds(8, 0, 0));
        due("one without fear", 0, x.odds(8, 1, 0));
        due("0 by 1", 1, x.odds(8, 1, 1));
        due("n 9", -1, x.odds(9, 0, 0));
        due("n -1", -1, x.odds(-1, 0, 0));
        due("k 9", -1, x.odds(8, 9, 0));
        due("k -1", -1, x.odds(8, -1, 0));
        due("part 2", -1, x.odds(8, 1, 2));
        due("part -1", -1, x.odds(8, 1, -1));
    }

    private static void hope() {
        PaintedWalls x = new PaintedWalls();
        due("of 0", 0, x.hope(0, 0));
        due("below", 1, x.hope(0, 1));
        due("of 99", 99, x.hope(99, 0));
        due("below", 5, x.hope(99, 1));
        x.set(3, 37);
        due("of 99", 3663, x.hope(99, 0));
        due("below", 100, x.hope(99, 1));
        due("100", -1, x.hope(100, 0));
        due("-1", -1, x.hope(-1, 0));
        due("part 2", -1, x.hope(1, 2));
        due("part -1", -1, x.hope(1, -1));
    }

    private static void rows() {
        PaintedWalls x = new PaintedWalls();
        due("none", -1, x.prove(0, 1));
        due("no row", -9, x.row(0, 0));
        due("nor to alter", -9, x.alterRow(0, 0, 0));
        x.name(0, 4, 40, 0);
        x.name(5, 0, 10, 9);
        due("n 0", -1, x.prove(0, 0));
        due("n 11", -1, x.prove(0, 11));
        due("one 2", -1, x.prove(2, 1));
        due("one -1", -1, x.prove(-1, 1));
        due("prove", 4, x.prove(0, 4));
        // cleaned in the first night with 42, back behind three more on 4 + 3
        int[][] want = {{10, 42, 30}, {10, 42, 30}, {10, 42, 30}, {7, 7, 51}};
        for (int i = 0; i < 4; i++) {
            for (int what = 0; what < 3; what++) { due("row " + i, want[i][what], x.row(i, what)); }
        }
        due("row 4", -9, x.row(4, 0));
        due("row -1", -9, x.row(-1, 0));
        due("row what 3", -9, x.row(0, 3));
        due("row what -1", -9, x.row(0, -1));
        due("many", 4, x.many(4));
        due("alter", 51, x.alterRow(3, 2, -777));
        due("altered", -777, x.row(3, 2));
        due("alter 4", -9, x.alterRow(4, 0, 0));
        due("alter -1", -9, x.alterRow(-1, 0, 0));
        due("alter what 3", -9, x.alterRow(0, 3, 0));
        due("alter what -1", -9, x.alterRow(0, -1, 0));
        due("BAD leaves the rows", -1, x.prove(0, 11));
        due("many", 4, x.many(4));
        due("others", 1, x.prove(1, 1));
        due("fewer", -9, x.row(1, 0));
        due("ten", 10, x.prove(1, 10));
        due("the tenth", 9, x.row(9, 0));
    }

    private static void judge() {
        PaintedWalls x = new PaintedWalls();
        due("none", -1, x.judge(0));
        x.name(0, 4, 40, 0);
        x.name(5, 0, 10, 9);
        due("no rows", 0, x.judge(0));
        due("one 2", -1, x.judge(2));
        due("one -1", -1, x.judge(-1));
        x.prove(0, 10);
        due("right", 0, x.judge(0));
        due("of another", 1, x.judge(1));
        for (int what = 0; what < 3; what++) {
            for (int i = 9; i >= 0; i -= 3) {
                int was = x.alterRow(i, what, 98);
                due("the first wrong one", i + 1, x.judge(0));
                x.alterRow(i, what, was);
                due("right again", 0, x.judge(0));
            }
        }
        x.alterRow(6, 0, 3);
        x.alterRow(4, 2, 3);
        due("the first of two", 5, x.judge(0));
        x.prove(0, 10);
        x.paint(1, 11);
        due("from how it is now", 1, x.judge(0));
        x.paint(1, 10);
        x.nights(1);
        due("a night later", 3, x.judge(0));
    }

    private static void nothingChanges() {
        PaintedWalls x = new PaintedWalls();
        Check.town(x, "tempted on 1 hand 3 size 40;grown on 1 size 60;fresh on 4 hand 9;wall 1 grey seen 9;buckets 2;");
        x.move(2, 10);
        x.nights(1);
        x.seed(99);
        x.prove(0, 9);
        x.sheet(0, 0, 9);
        x.view(60);
        x.stays(0);
        x.comes(2);
        x.clear();
        x.firstFor(30);
        x.groundFor(1, 30);
        x.kindFor(0, 30);
        x.bucketsFor(30, 0);
        x.waxedFor(10, 0);
        x.fits(0, 0, 0);
        x.shy(30);
        due("as it was", 0, x.judge(0));
        due("z", 99, x.seed(0));
        due("nights", 1, x.state(0));
        due("buckets", 2, x.lawOf(0));
        due("hand", 3, x.of(0, 1));
        due("kind", 3, x.of(0, 0));
    }
}
