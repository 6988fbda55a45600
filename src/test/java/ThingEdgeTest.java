/** The edges of sheets, shelves, acts, their trace, what is counted and what is kept: promises 37 to 47. */
public final class ThingEdgeTest {
    private static final int LEAST = Integer.MIN_VALUE, MOST = Integer.MAX_VALUE;
    private static final int NAME = 0, FRESH = 1, COVERED = 2, TEMPTED = 3, GROWN = 4, KEPT = 5, GONE = 10;
    private static final Check CHECK = new Check("ThingEdgeTest");

    private static void due(String call, long want, long got) {
        CHECK.due(call, want, got);
    }

    public static void main(String[] args) {
        sheetsAtTheirEnds();
        sheetsApart();
        putNarrowed();
        itemsAsLowAsRefusals();
        mindsHeld();
        mindsFromTo();
        shelvesOfEachName();
        shelfOfOneNoMore();
        shelvesOfEachRow();
        shelfHoldsOneThing();
        takenAsWhatIsAbove();
        actsWrap();
        partsCutTowardsZero();
        partedByNothing();
        actsByNumberAndHand();
        traceOfTheLatest();
        longestTrace();
        manyAtTheirEnds();
        keptLatest();
        keptStays();
        keptWhole();
        keptApart();
        CHECK.end();
    }

    private static void sheetsAtTheirEnds() {
        for (int sheet = 0; sheet < 4; sheet++) {
            for (int sort = 0; sort < 4; sort++) {
                PaintedWalls x = new PaintedWalls();
                due("missing at first", -11, x.item(sheet, sort, 0));
                due("of none", 1, x.sheet(sheet, sort, 0));
                due("no item", -12, x.item(sheet, sort, 0));
                due("no place to put", -12, x.put(sheet, 0, 1));
                due("of forty", 1, x.sheet(sheet, sort, 40));
                for (int i = 0; i < 40; i += 13) {
                    due("all 0", 0, x.item(sheet, sort, i));
                    due("put", 1, x.put(sheet, i, i + 1));
                }
                for (int i = 0; i < 40; i++) { due("item " + i, i % 13 == 0 ? i + 1 : 0, x.item(sheet, sort, i)); }
                due("the fortieth", 40, x.item(sheet, sort, 39));
                due("no more", -12, x.item(sheet, sort, 40));
                due("too many", -1, x.sheet(sheet, sort, 41));
                due("it stays", 40, x.item(sheet, sort, 39));
                due("below 0", -14, x.sheet(sheet, sort, -1));
                due("it stays", 40, x.item(sheet, sort, 39));
                due("anew", 1, x.sheet(sheet, sort, 40));
                due("all 0 again", 0, x.item(sheet, sort, 39));
                due("missing", 1, x.sheet(sheet, -1, 40));
                due("missing", -11, x.item(sheet, sort, 39));
                due("missing", -11, x.put(sheet, 39, 1));
                due("one", 1, x.sheet(sheet, sort, 1));
                due("put it", 1, x.put(sheet, 0, -1));
                due("the one", -1, x.item(sheet, sort, 0));
                due("no second", -12, x.item(sheet, sort, 1));
            }
        }
    }

    private static void sheetsApart() {
        PaintedWalls x = new PaintedWalls();
        for (int sheet = 0; sheet < 4; sheet++) { x.sheet(sheet, 3 - sheet, sheet + 1); }
        for (int sheet = 0; sheet < 4; sheet++) { x.put(sheet, sheet, 10 + sheet); }
        for (int sheet = 0; sheet < 4; sheet++) {
            due("its own last", 10 + sheet, x.item(sheet, 3 - sheet, sheet));
            due("no more", -12, x.item(sheet, 3 - sheet, sheet + 1));
            for (int sort = 0; sort < 4; sort++) {
                if (sort != 3 - sheet) { due("of another sort", -13, x.item(sheet, sort, sheet)); }
            }
        }
        x.sheet(0, -1, 0);
        due("the others stay", 11, x.item(1, 2, 1));
    }

    private static void putNarrowed() {
        int[] put = {0, 1, -1, 127, 128, 129, 255, 256, -127, -128, -129, -256, 32767, 32768, 32769, 65535, 65536, -32768, -32769,
            MOST, LEAST, MOST - 1, LEAST + 1};
        int[] bytes = {0, 1, -1, 127, -128, -127, -1, 0, -127, -128, 127, 0, -1, 0, 1, -1, 0, 0, -1, -1, 0, -2, 1};
        int[] shorts = {0, 1, -1, 127, 128, 129, 255, 256, -127, -128, -129, -256, 32767, -32768, -32767, -1, 0, -32768, 32767,
            -1, 0, -2, 1};
        for (int sort = 0; sort < 4; sort++) {
            PaintedWalls x = new PaintedWalls();
            x.sheet(0, sort, 2);
            for (int i = 0; i < put.length; i++) {
                due("put " + put[i], 1, x.put(0, 1, put[i]));
                due(put[i] + " in sort " + sort, sort == 0 ? bytes[i] : sort == 1 ? shorts[i] : put[i], x.item(0, sort, 1));
                due("the other one stays", 0, x.item(0, sort, 0));
            }
        }
    }

    private static void itemsAsLowAsRefusals() {
        PaintedWalls x = new PaintedWalls();
        for (int sort = 0; sort < 4; sort++) {
            x.sheet(0, sort, 1);
            for (int v = -15; v < 0; v++) {
                x.put(0, 0, v);
                due("an item may be " + v, v, x.item(0, sort, 0));
            }
        }
    }

    private static void mindsHeld() {
        int[] put = {0, 1, 98, 99, 100, 127, 128, 255, -1, -128, 256, 355};
        int[] want = {0, 1, 98, 99, 99, 99, 0, 0, 0, 0, 0, 99};
        for (int i = 0; i < put.length; i++) {
            PaintedWalls x = new PaintedWalls();
            x.name(NAME, 0, 50, 0);
            x.name(NAME, 0, 50, 0);
            x.move(1, GONE);
            x.sheet(2, 0, 2);
            x.put(2, 0, put[i]);
            x.put(2, 1, put[i]);
            due("one", 1, x.minds(2, 1, 0, 1));
            due("size by " + put[i], want[i], x.of(0, 2));
            due("another stays", 50, x.of(1, 2));
            due("a gone one too", 1, x.minds(2, 0, 1, 1));
            due("size by " + put[i], want[i], x.of(1, 2));
            due("gone still", GONE, x.of(1, 3));
        }
    }

    private static void mindsFromTo() {
        for (int names = 1; names <= 8; names++) {
            for (int from = 0; from < names; from++) {
                PaintedWalls x = new PaintedWalls();
                for (int i = 0; i < names; i++) { x.name(NAME, 0, 50, 0); }
                x.sheet(0, 0, 9);
                for (int i = 0; i < 9; i++) { x.put(0, i, i + 1); }
                int most = names - from;
                due("beyond the last one", -1, x.minds(0, 0, from, most + 1));
                due("as many as there are", most, x.minds(0, 9 - most, from, most));
                for (int i = 0; i < names; i++) { due("size " + i, i < from ? 50 : 10 - most + i - from, x.of(i, 2)); }
                due("none", 0, x.minds(0, 9, from, 0));
                due("one item too few", -12, x.minds(0, 10 - most, from, most));
                due("the last stays", 9, x.of(names - 1, 2));
                due("from 0 on", 1, x.minds(0, 0, from, 1));
                due("size", 1, x.of(from, 2));
            }
        }
        PaintedWalls x = new PaintedWalls();
        x.sheet(0, 0, 9);
        due("no such one, when there is none", -1, x.minds(0, 0, 0, 0));
    }

    private static void shelvesOfEachName() {
        PaintedWalls x = new PaintedWalls();
        for (int i = 0; i < 8; i++) { x.name(NAME, 0, 0, 0); }
        for (int shelf = 0; shelf < 4; shelf++) {
            due("nothing at first", -11, x.taken(shelf, 0));
            for (int name = 0; name < 8; name += 7) {
                due("shelf", 1, x.shelf(shelf, 0, name));
                due("its number", name, x.taken(shelf, 0));
                due("x * 7 + n", 21 + name, x.act(shelf, 0, 3));
            }
            due("no such one", -1, x.shelf(shelf, 0, 8));
            due("it stays", 7, x.taken(shelf, 0));
            due("no such one", -1, x.shelf(shelf, 0, -1));
            due("it stays", 7, x.taken(shelf, 0));
        }
        x.move(7, GONE);
        due("a gone one is a thing as well", 7, x.taken(0, 0));
        due("and acts", 28, x.act(0, 0, 3));
    }

    private static void shelfOfOneNoMore() {
        PaintedWalls x = new PaintedWalls();
        for (int i = 0; i < 3; i++) { x.name(KEPT, 9, 0, 0); }
        x.shelf(0, 0, 2);
        x.shelf(1, 0, 1);
        x.act(0, 0, 1);
        Check.town(x, "name on 1;fresh on 2;");
        due("no such one at the time: nothing", -11, x.taken(0, 0));
        due("nor a row", -11, x.taken(0, 10));
        due("a trace is there still", 1, x.many(6));
        due("no act", 0, x.act(0, 0, 1));
        due("no trace then", 0, x.many(6));
        due("by its number: what it is now", -13, x.taken(1, 5));
        due("of a kind that it is", 1, x.taken(1, 1));
        due("acts as that", 8, x.act(1, 0, 1));
        x.name(TEMPTED, 5, 0, 0);
        due("there is such a one again", 2, x.taken(0, 3));
        due("acts as that", 7 + 2 - 5, x.act(0, 0, 1));
        due("a mind of another kind", TEMPTED, x.mind(2, NAME, 5));
        due("is of that", -13, x.taken(0, 3));
        due("acts as that", 9, x.act(0, 0, 1));
    }

    private static void shelvesOfEachRow() {
        for (int length = 0; length <= 40; length += 40) {
            PaintedWalls x = new PaintedWalls();
            for (int sort = 0; sort < 4; sort++) {
                x.sheet(sort, sort, length);
                due("shelf", 1, x.shelf(3 - sort, 1, sort));
                for (int as = 0; as < 14; as = as == 5 ? 10 : as + 1) {
                    due("sort " + sort + " as " + as, as == 10 + sort ? length : -13, x.taken(3 - sort, as));
                }
                due("a row has no acts", 0, x.act(3 - sort, 0, 1));
            }
            due("a missing one", 1, x.sheet(1, -1, 0));
            due("is there still", length, x.taken(2, 11));
            due("put there", 1, x.shelf(2, 1, 1));
            due("is nothing", -11, x.taken(2, 11));
            x.shelf(0, 1, 1);
            due("in a row's stead too", -11, x.taken(0, 13));
            x.sheet(2, 0, 7);
            due("the row that it was", length, x.taken(1, 12));
            x.shelf(1, 1, 2);
            due("the row that it is", 7, x.taken(1, 10));
        }
    }

    private static void shelfHoldsOneThing() {
        PaintedWalls x = new PaintedWalls();
        x.name(NAME, 1, 0, 0);
        x.sheet(0, 2, 5);
        for (int shelf = 0; shelf < 4; shelf++) {
            x.shelf(shelf, 0, 0);
            due("one", 0, x.taken(shelf, 0));
            x.shelf(shelf, 1, 0);
            due("a row", 5, x.taken(shelf, 12));
            due("one no more", -13, x.taken(shelf, 0));
            x.shelf(shelf, 0, 0);
            due("a row no more", -13, x.taken(shelf, 12));
            due("one again", 0, x.taken(shelf, 0));
            for (int what = 3; what < 5; what++) { due("no such what", -1, x.shelf(shelf, what, 0)); }
            due("one still", 0, x.taken(shelf, 0));
            x.shelf(shelf, 2, 0);
            due("nothing", -11, x.taken(shelf, 0));
            due("nothing", -11, x.taken(shelf, 12));
            x.shelf(shelf, 1, 0);
            x.shelf(shelf, 2, 0);
            due("nothing in a row's stead", -11, x.taken(shelf, 12));
            x.shelf(shelf, 0, 0);
            x.shelf(shelf, 1, 3);
            due("nothing, as it is missing", -11, x.taken(shelf, 0));
            for (int other = shelf + 1; other < 4; other++) { due("the others hold nothing", -11, x.taken(other, 0)); }
            x.shelf(shelf, 0, 0);
        }
        for (int shelf = 0; shelf < 4; shelf++) { due("each holds its own", 0, x.taken(shelf, 0)); }
    }

    private static void takenAsWhatIsAbove() {
        String[] above = {"0", "01", "02", "013", "024", "05"};
        for (int kind = 0; kind < 6; kind++) {
            PaintedWalls x = new PaintedWalls();
            x.name(NAME, 0, 0, 0);
            x.name(kind, 0, 0, 0);
            x.shelf(2, 0, 1);
            for (int as = 0; as < 6; as++) {
                boolean isUnder = above[kind].indexOf('0' + as) >= 0;
                due("kind " + kind + " as " + as, isUnder ? 1 : -13, x.taken(2, as));
            }
        }
    }

    private static PaintedWalls thing(int kind, int number, int hand) {
        PaintedWalls x = new PaintedWalls();
        for (int i = 0; i < 8; i++) { x.name(kind, hand, 50, 0); }
        x.shelf(0, 0, number);
        return x;
    }

    private static void actsWrap() {
        for (int at : new int[] {LEAST, MOST, LEAST + 1, 0x12492492, 0x12492493, -0x12492493, 0, -1}) {
            int sprays = at * 7 + 3;
            due("name sprays", sprays, thing(NAME, 3, 5).act(0, 0, at));
            due("name drips", sprays - 25, thing(NAME, 3, 5).act(0, 1, at));
            due("name fades", sprays - 25 ^ 190, thing(NAME, 3, 5).act(0, 3, at));
            due("fresh drips", sprays - 16, thing(FRESH, 3, 5).act(0, 1, at));
            due("fresh fades", sprays - 16 ^ 190, thing(FRESH, 3, 5).act(0, 3, at));
            due("covered sprays", -sprays, thing(COVERED, 3, 5).act(0, 0, at));
            due("covered drips", -sprays - 25, thing(COVERED, 3, 5).act(0, 1, at));
            due("covered fades", (-sprays - 25 ^ 190) - 1, thing(COVERED, 3, 5).act(0, 3, at));
            due("grown sprays", -sprays ^ 12, thing(GROWN, 3, 5).act(0, 0, at));
            due("grown drips", (-sprays ^ 12) - 25 + (-38 ^ 12), thing(GROWN, 3, 5).act(0, 1, at));
            due("tempted sprays", sprays - 5, thing(TEMPTED, 3, 5).act(0, 0, at));
            due("tempted drips", sprays - 21, thing(TEMPTED, 3, 5).act(0, 1, at));
            due("tempted parts", (at - 3) / 2 * 4, thing(TEMPTED, 3, 5).act(0, 2, at));
            due("kept fades", 3 - (sprays - 25 ^ 190), thing(KEPT, 3, 5).act(0, 3, at));
            due("kept parts", at / 2 ^ 24, thing(KEPT, 3, 5).act(0, 2, at));
        }
        due("the least int by -1 wraps", LEAST, thing(NAME, 6, 5).act(0, 2, LEAST));
        due("tempted: the least int less n wraps", (LEAST - 6) / -1 * 4, thing(TEMPTED, 6, 5).act(0, 2, LEAST));
        due("kept: the least int by -1", LEAST ^ 48, thing(KEPT, 6, 5).act(0, 2, LEAST));
    }

    private static void partsCutTowardsZero() {
        int[][] cases = {{7, 2, 3}, {-7, 2, -3}, {1, 2, 0}, {-1, 2, 0}, {8, 2, 4}, {-8, 2, -4}, {7, -2, -3}, {-7, -2, 3}, {5, 9, 0},
            {-5, 9, 0}, {9, 9, 1}, {-9, 9, -1}, {-6, -7, 0}, {-7, -7, 1}};
        for (int[] one : cases) {
            int number = one[1] > 0 ? 0 : 7;
            int hand = number + one[1];
            for (int kind : new int[] {NAME, FRESH, COVERED, GROWN}) {
                due(one[0] + " by " + one[1], one[2], thing(kind, number, hand).act(0, 2, one[0]));
            }
            due("kept: " + one[0] + " by " + one[1], one[2] ^ number * 8, thing(KEPT, number, hand).act(0, 2, one[0]));
            due("tempted: " + one[0] + " by " + one[1], one[2] * 4, thing(TEMPTED, number, hand).act(0, 2, one[0] + number));
        }
    }

    private static void trace(PaintedWalls x, String told, int... bodies) {
        due(told + ": how many", bodies.length, x.many(6));
        for (int i = 0; i < bodies.length; i++) { due(told + ": body " + i, bodies[i], x.trace(i)); }
        due(told + ": no more", -3, x.trace(bodies.length));
    }

    private static void partedByNothing() {
        for (int number = 0; number < 8; number++) {
            for (int kind = 0; kind < 6; kind++) {
                for (int at : new int[] {0, 1, LEAST, MOST}) {
                    PaintedWalls x = thing(kind, number, number);
                    due("parts by nothing, kind " + kind, -15, x.act(0, 2, at));
                    due("the first body began", kind == TEMPTED ? 50 : kind == KEPT ? 61 : 12, x.trace(0));
                    CHECK.isTrue("an act of its own again", x.act(0, 0, 1) != -15);
                }
            }
            PaintedWalls x = thing(COVERED, number, number);
            due("covered fades, parted by nothing", -15, x.act(0, 3, 9));
            trace(x, "as they began", 31, 13, 11, 30, 10, 12);
            PaintedWalls y = thing(GROWN, number, number);
            due("grown fades, parted by nothing", -15, y.act(0, 3, 9));
            PaintedWalls z = thing(KEPT, number, number);
            due("kept does not spray then", -15, z.act(0, 2, 9));
            trace(z, "as they began", 61, 12);
            for (int kind : new int[] {NAME, FRESH, TEMPTED, KEPT}) {
                CHECK.isTrue("fades without parts", thing(kind, number, number).act(0, 3, 0) != -15);
            }
            if (number > 0) { due("one less is enough", -9, thing(NAME, number, number - 1).act(0, 2, 9)); }
            due("one more is enough", 9, thing(NAME, number, number + 1).act(0, 2, 9));
        }
        due("an act may answer -15 of itself", -15, thing(NAME, 6, 5).act(0, 0, -3));
    }

    private static void actsByNumberAndHand() {
        for (int number = 0; number < 8; number += 7) {
            for (int hand = 0; hand < 10; hand += 9) {
                due("sprays", 70 + number, thing(NAME, number, hand).act(0, 0, 10));
                due("drips", 70 + number - hand * 5, thing(NAME, number, hand).act(0, 1, 10));
                due("parts", hand == number ? -15 : 1000 / (hand - number), thing(NAME, number, hand).act(0, 2, 1000));
                due("tempted sprays", 70 + number - hand, thing(TEMPTED, number, hand).act(0, 0, 10));
                due("grown drips", (-(70 + number) ^ 12) - hand * 5 + (-(hand * 7 + number) ^ 12),
                    thing(GROWN, number, hand).act(0, 1, 10));
            }
        }
        PaintedWalls x = thing(NAME, 2, 3);
        String was = Picture.ofKeepable(x);
        for (int act = 0; act < 4; act++) { x.act(0, act, 77); }
        CHECK.isTrue("acts change none of all that is kept", was.equals(Picture.ofKeepable(x)));
    }

    private static void traceOfTheLatest() {
        PaintedWalls x = thing(NAME, 2, 5);
        trace(x, "none at first");
        x.act(0, 3, 1);
        trace(x, "fades", 13, 11, 10);
        x.act(0, 0, 1);
        trace(x, "the latest alone", 10);
        due("none before the first", -3, x.trace(-1));
        due("none far off", -3, x.trace(MOST));
        due("none far off", -3, x.trace(LEAST));
        x.mind(2, KEPT, 5);
        trace(x, "another kind, the latest act still", 10);
        x.shelf(0, 2, 0);
        trace(x, "nothing on the shelf, the latest act still", 10);
        x.act(0, 1, 1);
        trace(x, "nothing acts");
    }

    /** Eleven are as many as any act has; the document keeps thirty. */
    private static void longestTrace() {
        PaintedWalls x = thing(GROWN, 2, 5);
        x.act(0, 3, 1);
        trace(x, "grown fades", 31, 13, 41, 11, 40, 30, 10, 40, 30, 10, 12);
        for (int times = 0; times < 5; times++) {
            x.act(0, 3, 1);
            due("not one behind another", 11, x.many(6));
        }
    }

    private static void manyAtTheirEnds() {
        PaintedWalls x = new PaintedWalls();
        for (int what = 0; what < 7; what++) { due("of a new object", 0, x.many(what)); }
        for (int i = 0; i < 8; i++) {
            x.name(GROWN, i + 2, 1, i + 2);
            due("names", i + 1, x.many(0));
            due("hands", i + 1, x.many(3));
            due("walls that have looks", i + 1, x.many(2));
        }
        x.mind(2, GROWN, 9);
        x.shelf(0, 0, 2);
        x.act(0, 3, 0);
        due("hands", 7, x.many(3));
        due("bodies", 11, x.many(6));
        for (int n = 1; n <= 10; n++) {
            x.prove(0, n);
            due("rows", n, x.many(4));
        }
        for (int i = 1; i <= 25; i++) { x.feed(0x2020202020202020L, 8); }
        due("bytes", 200, x.many(5));
        for (int i = 0; i < 8; i++) {
            x.move(i, GONE);
            due("gone", i + 1, x.many(1));
            due("walls that have looks", 7 - i, x.many(2));
        }
        due("names still", 8, x.many(0));
        due("hands still", 7, x.many(3));
    }

    private static void keptLatest() {
        PaintedWalls x = new PaintedWalls();
        x.name(NAME, 0, 10, 0);
        due("keep", 1, x.keep());
        x.name(NAME, 0, 20, 0);
        x.name(NAME, 0, 30, 0);
        due("keep the latest", 1, x.keep());
        x.town();
        due("three", 3, x.again());
        due("three again", 3, x.again());
        x.town();
        due("keep none", 1, x.keep());
        x.name(NAME, 0, 20, 0);
        due("none, not NONE", 0, x.again());
        due("no names", 0, x.many(0));
        for (int i = 0; i < 8; i++) { x.name(KEPT, i, 99, 9); }
        x.keep();
        x.town();
        due("eight", 8, x.again());
        due("full", -2, x.name(NAME, 0, 0, 0));
    }

    private static void keptStays() {
        PaintedWalls x = Towns.SOME.make();
        x.nights(3);
        x.keep();
        String was = Picture.ofKeepable(x);
        x.set(0, 9 - x.lawOf(0));
        x.set(1, 9);
        x.set(2, 98);
        x.set(3, 98);
        for (int name = 0; name < 3; name++) {
            x.mind(name, FRESH, 0);
            x.paint(name, 77);
            x.move(name, name == 1 ? 4 : GONE);
        }
        for (int wall = 0; wall < 10; wall++) {
            x.wall(wall, 0, 2 - x.wallOf(wall, 0));
            x.wall(wall, 1, 9 - x.wallOf(wall, 1));
        }
        x.name(NAME, 0, 0, 0);
        x.night();
        due("again", 3, x.again());
        CHECK.isTrue("all is as it was kept", was.equals(Picture.ofKeepable(x)));
        x.nights(2);
        due("again", 3, x.again());
        CHECK.isTrue("all is as it was kept still", was.equals(Picture.ofKeepable(x)));
    }

    /** All of eight are kept, the last one's AWAY too. */
    private static void keptWhole() {
        PaintedWalls x = new PaintedWalls();
        for (int i = 0; i < 8; i++) {
            x.name(COVERED, 9, 90 + i, i);
            x.set(0, 0);
            x.move(i, GONE);
            x.nights(1);
        }
        for (int i = 0; i < 8; i++) { due("away " + i, 8 - i, x.of(i, 4)); }
        for (int i = 1; i < 7; i += 2) { x.mind(i, i, 8 - i); }
        x.keep();
        String was = Picture.ofKeepable(x);
        x.town();
        for (int i = 0; i < 8; i++) { x.name(NAME, i, 1, i); }
        CHECK.isTrue("others", !was.equals(Picture.ofKeepable(x)));
        due("eight", 8, x.again());
        CHECK.isTrue("as they were kept", was.equals(Picture.ofKeepable(x)));
        x.nights(1);
        due("the eighth is away a night more", 2, x.of(7, 4));
    }

    private static void keptApart() {
        PaintedWalls x = Towns.SOME.make();
        x.keep();
        String was = Picture.of(x);
        CHECK.isTrue("keep and again change nothing by themselves", x.again() == 3 && was.equals(Picture.of(x)));
        PaintedWalls y = Towns.SOME.make();
        y.keep();
        y.feed(0x20, 1);
        y.prove(0, 5);
        y.sheet(0, -1, 0);
        y.put(1, 0, 4);
        y.shelf(0, 2, 0);
        y.act(0, 0, 0);
        String then = Picture.of(y);
        CHECK.isTrue("those are others", !was.equals(then));
        y.again();
        CHECK.isTrue("and stay so", then.equals(Picture.of(y)));
    }
}
