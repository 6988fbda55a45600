/** Towns in which most that can be refused or changed is there, made anew for every call that is tried on them. */
enum Towns {
    /** A new object. */
    BARE {
        @Override PaintedWalls make() { return new PaintedWalls(); }
    },

    /**
     * Three NAMES, of which 1 is GONE; SHEET 0 of bytes, 1 of ints, 2 and 3 missing; SHELF 0 holds one, 1 a row, 2
     * nothing, 3 one of more NAMES than there are; 2 ROWS; a TEXT on THE TAPE; other NAMES are kept.
     */
    SOME {
        @Override PaintedWalls make() {
            PaintedWalls x = new PaintedWalls();
            for (int i = 0; i < 7; i++) { x.name(i % 6, i, 10 * i, i); }
            x.shelf(3, 0, 6);
            x.seed(1234);
            x.keep();
            Check.town(x, "tempted on 3 hand 4 size 41;grown on 3 hand 1 size 60;kept on 8 hand 7 size 20;"
                + "wall 3 grey seen 4;wall 8 old seen 9;wall 2 wax seen 5;fear 33;lure 3;buckets 2;");
            x.move(1, 10);
            x.nights(1);
            x.seed(-77);
            x.sheet(0, 0, 3);
            x.put(0, 0, 10);
            x.put(0, 1, -1);
            x.put(0, 2, 99);
            x.sheet(1, 2, 2);
            x.put(1, 1, 123456);
            x.shelf(0, 0, 0);
            x.shelf(1, 1, 1);
            x.act(0, 1, 9);
            x.prove(0, 2);
            x.alterRow(1, 1, -5);
            Check.feed(x, "lure 7;grown on 2;");
            return x;
        }
    },

    /** Eight NAMES, ten ROWS, THE TAPE full, every SHEET of another sort, every SHELF taken. */
    CROWD {
        @Override PaintedWalls make() {
            PaintedWalls x = new PaintedWalls();
            x.name(5, 5, 55, 5);
            x.set(1, 5);
            x.keep();
            Check.town(x, "name on 0 hand 9 size 9;fresh on 1 hand 8 size 80;covered on 1 hand 7 size 70;buckets 1;");
            Check.town(x, "wall 6 grey;kept on 0 hand 2 size 99;fresh on 1 size 50;tempted on 1 size 25;");
            for (int i = 3; i < 8; i++) { x.name(i - 2, i, 99 - i, i); }
            for (int sheet = 0; sheet < 4; sheet++) {
                x.sheet(sheet, sheet, 2 * sheet);
                x.shelf(sheet, 1, sheet);
            }
            x.put(3, 5, -99);
            x.shelf(0, 0, 7);
            x.act(0, 3, 2);
            x.prove(3, 10);
            Check.feed(x, "kept on 9 hand 9 size 99;".repeat(8));
            return x;
        }
    };

    abstract PaintedWalls make();
}
