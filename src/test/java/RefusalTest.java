/**
 * Every number of every call, on both sides: the last value that is taken, the first that is refused, and the int's
 * own ends. What is refused changes nothing; of several refusals the first named answers.
 */
public final class RefusalTest {
    private static final int LEAST = Integer.MIN_VALUE, MOST = Integer.MAX_VALUE;
    private static final int BAD = -1, FULL = -2, NONE = -3, NO_ROW = -9;
    private static final int NOTHING = -11, OUTSIDE = -12, OTHER = -13, BELOW_0 = -14;
    private static final Check CHECK = new Check("RefusalTest");
    private static final String[] PICTURES = new String[Towns.values().length];

    private interface Call {
        long on(PaintedWalls x);
    }

    private interface CallWith {
        long on(PaintedWalls x, int v);
    }

    public static void main(String[] args) {
        for (Towns town : Towns.values()) { PICTURES[town.ordinal()] = Picture.ofAll(town.make()); }
        feedAndTown();
        laws();
        names();
        nameAndAnother();
        walls();
        nights();
        tried();
        bestChoices();
        handsAndFits();
        odds();
        rows();
        minds();
        sheets();
        shelves();
        acts();
        many();
        keptNothing();
        firstNamed();
        CHECK.end();
    }

    /** The call answers so on that town, and leaves all as it was. */
    private static void refused(Towns town, String told, long answer, Call call) {
        PaintedWalls x = town.make();
        CHECK.due(town + ": " + told, answer, call.on(x));
        CHECK.isTrue(town + ": " + told + " changes nothing", Picture.ofAll(x).equals(PICTURES[town.ordinal()]));
    }

    /** From least to most is taken at its ends, beyond is refused. */
    private static void sides(Towns town, String told, int least, int most, long refusal, CallWith call) {
        taken(town, told, least, refusal, call);
        taken(town, told, most, refusal, call);
        below(town, told, least, refusal, call);
        above(town, told, most, refusal, call);
    }

    private static void taken(Towns town, String told, int v, long refusal, CallWith call) {
        CHECK.isTrue(town + ": " + told + " of " + v + " is taken", call.on(town.make(), v) != refusal);
    }

    private static void below(Towns town, String told, int least, long refusal, CallWith call) {
        refused(town, told + " of " + (least - 1), refusal, x -> call.on(x, least - 1));
        refused(town, told + " of the least int", refusal, x -> call.on(x, LEAST));
    }

    private static void above(Towns town, String told, int most, long refusal, CallWith call) {
        refused(town, told + " of " + (most + 1), refusal, x -> call.on(x, most + 1));
        refused(town, told + " of the most int", refusal, x -> call.on(x, MOST));
    }

    /** One of the NAMES: in each town those that are there, in a new object none. */
    private static void one(String told, CallWith call) {
        sides(Towns.SOME, told, 0, 2, BAD, call);
        sides(Towns.CROWD, told, 0, 7, BAD, call);
        refused(Towns.BARE, told + " of 0, when there is none", BAD, x -> call.on(x, 0));
    }

    private static void feedAndTown() {
        sides(Towns.SOME, "feed's n", 1, 8, BAD, (x, v) -> x.feed(0x4141414141414141L, v));
        refused(Towns.CROWD, "feed to a full tape", FULL, x -> x.feed(0x20, 1));
        refused(Towns.CROWD, "feed 8 to a full tape", FULL, x -> x.feed(0x20, 8));
        for (int n = 1; n <= 8; n++) {
            // so many bytes more than there is room for: none of them comes
            PaintedWalls x = new PaintedWalls();
            for (int i = 0; i < 24; i++) { x.feed(0x2020202020202020L, 8); }
            int room = n - 1;
            if (room < 8) { CHECK.due("to where " + room + " fit", 200 - room, x.feed(0x2020202020202020L, 8 - room)); }
            CHECK.due("one byte too many of " + n, FULL, x.feed(0x4141414141414141L, n));
            CHECK.due("none came", 200 - room, x.many(5));
            if (room > 0) { CHECK.due("as many as fit", 200, x.feed(0x2020202020202020L, room)); }
            CHECK.due("blanks alone", 0, x.town());
        }
        for (Towns town : new Towns[] {Towns.BARE, Towns.SOME}) {
            PaintedWalls x = town.make();
            PaintedWalls y = town.make();
            x.town();
            y.town();
            y.feed(0x3F, 1);
            CHECK.due(town + ": a fault", -100, y.town());
            CHECK.isTrue(town + ": a fault changes nothing but THE TAPE", Picture.ofAll(x).equals(Picture.ofAll(y)));
        }
    }

    private static void laws() {
        sides(Towns.SOME, "set's law", 0, 3, BAD, (x, v) -> x.set(v, 5));
        int[] most = {9, 9, 99, 99};
        for (int law = 0; law < 4; law++) {
            int one = law;
            sides(Towns.SOME, "law " + law, 0, most[law], BAD, (x, v) -> x.set(one, v));
        }
        sides(Towns.SOME, "lawOf", 0, 3, BAD, (x, v) -> x.lawOf(v));
    }

    private static void names() {
        sides(Towns.SOME, "name's kind", 0, 5, BAD, (x, v) -> x.name(v, 3, 30, 3));
        sides(Towns.SOME, "name's hand", 0, 9, BAD, (x, v) -> x.name(3, v, 30, 3));
        sides(Towns.SOME, "name's size", 0, 99, BAD, (x, v) -> x.name(3, 3, v, 3));
        sides(Towns.SOME, "name's wall", 0, 9, BAD, (x, v) -> x.name(3, 3, 30, v));
        refused(Towns.CROWD, "a ninth", FULL, x -> x.name(0, 0, 0, 0));
        PaintedWalls x = Towns.CROWD.make();
        CHECK.due("fewer names", 8, x.town());
        CHECK.due("still eight", FULL, x.name(0, 0, 0, 0));
        CHECK.due("no names", 0, x.town());
        for (int i = 0; i < 8; i++) { CHECK.due("numbered as they come", i, x.name(0, 0, 0, 0)); }
        CHECK.due("then full", FULL, x.name(0, 0, 0, 0));
    }

    private static void nameAndAnother() {
        for (int what = 0; what < 5; what++) {
            int asked = what;
            one("of " + what, (x, v) -> x.of(v, asked));
        }
        sides(Towns.SOME, "of's what", 0, 4, BAD, (x, v) -> x.of(0, v));
        for (int what = 0; what < 3; what++) {
            int asked = what;
            one("does " + what, (x, v) -> x.does(v, asked));
        }
        sides(Towns.SOME, "does' what", 0, 2, BAD, (x, v) -> x.does(0, v));
        refused(Towns.SOME, "what a gone one grows", NONE, x -> x.does(1, 0));
        refused(Towns.SOME, "what a gone one holds", NONE, x -> x.does(1, 1));
        one("mind", (x, v) -> x.mind(v, 1, 1));
        sides(Towns.SOME, "mind's kind", 0, 5, BAD, (x, v) -> x.mind(0, v, 1));
        sides(Towns.SOME, "mind's hand", 0, 9, BAD, (x, v) -> x.mind(0, 1, v));
        one("paint", (x, v) -> x.paint(v, 1));
        sides(Towns.SOME, "paint's size", 0, 99, BAD, (x, v) -> x.paint(0, v));
        one("move", (x, v) -> x.move(v, 1));
        sides(Towns.SOME, "move's wall", 0, 10, BAD, (x, v) -> x.move(0, v));
        sides(Towns.SOME, "a gone one's wall", 0, 10, BAD, (x, v) -> x.move(1, v));
    }

    private static void walls() {
        for (int what = 0; what < 2; what++) {
            int changed = what;
            sides(Towns.SOME, "wall's wall, " + what, 0, 9, BAD, (x, v) -> x.wall(v, changed, 1));
        }
        sides(Towns.SOME, "wall's what", 0, 1, BAD, (x, v) -> x.wall(3, v, 2));
        sides(Towns.SOME, "a ground", 0, 2, BAD, (x, v) -> x.wall(3, 0, v));
        sides(Towns.SOME, "seen by", 0, 9, BAD, (x, v) -> x.wall(3, 1, v));
        for (int what = 0; what < 4; what++) {
            int asked = what;
            sides(Towns.SOME, "wallOf's wall, " + what, 0, 9, BAD, (x, v) -> x.wallOf(v, asked));
        }
        sides(Towns.SOME, "wallOf's what", 0, 3, BAD, (x, v) -> x.wallOf(3, v));
        sides(Towns.SOME, "clean", 0, 9, BAD, (x, v) -> x.clean(v));
    }

    private static void nights() {
        for (Towns town : Towns.values()) {
            sides(town, "nights", 1, 60, BAD, (x, v) -> x.nights(v));
            sides(town, "shy", 1, 30, BAD, (x, v) -> x.shy(v));
            sides(town, "state", 0, 5, BAD, (x, v) -> x.state(v));
            sides(town, "view", 0, 60, BAD, (x, v) -> x.view(v));
            sides(town, "firstFor", 1, 30, BAD, (x, v) -> x.firstFor(v));
        }
    }

    private static void tried() {
        one("stays", (x, v) -> x.stays(v));
        one("comes", (x, v) -> x.comes(v));
        refused(Towns.SOME, "stays for good", NONE, x -> x.stays(2));
        refused(Towns.SOME, "is never clear", NONE, x -> x.clear());
    }

    private static void bestChoices() {
        sides(Towns.SOME, "groundFor's wall", 0, 9, BAD, (x, v) -> x.groundFor(v, 3));
        sides(Towns.SOME, "groundFor's n", 1, 30, BAD, (x, v) -> x.groundFor(3, v));
        one("kindFor", (x, v) -> x.kindFor(v, 3));
        sides(Towns.SOME, "kindFor's n", 1, 30, BAD, (x, v) -> x.kindFor(0, v));
        sides(Towns.SOME, "bucketsFor's n", 1, 30, BAD, (x, v) -> x.bucketsFor(v, 99999));
        sides(Towns.BARE, "bucketsFor's v", 0, 99999, BAD, (x, v) -> x.bucketsFor(3, v));
        refused(Towns.SOME, "no buckets are enough", NONE, x -> x.bucketsFor(3, 0));
        sides(Towns.SOME, "waxedFor's n", 1, 10, BAD, (x, v) -> x.waxedFor(v, 99999));
        sides(Towns.BARE, "waxedFor's v", 0, 99999, BAD, (x, v) -> x.waxedFor(3, v));
        refused(Towns.CROWD, "no wax is enough", NONE, x -> x.waxedFor(3, 0));
    }

    private static void handsAndFits() {
        sides(Towns.SOME, "hands' what", 0, 1, BAD, (x, v) -> x.hands(v, 0));
        one("hands 1", (x, v) -> x.hands(1, v));
        for (int name : new int[] {-1, 3, LEAST, MOST}) {
            CHECK.due("one counts for what 1 alone", 3, Towns.SOME.make().hands(0, name));
        }
        sides(Towns.CROWD, "fits' sheet", 0, 3, BAD, (x, v) -> x.fits(v, 0, 0));
        one("fits, what 0", (x, v) -> x.fits(0, v, 0));
        one("fits, what 1", (x, v) -> x.fits(0, v, 1));
        sides(Towns.SOME, "fits' what", 0, 1, BAD, (x, v) -> x.fits(0, 0, v));
        for (int sheet = 2; sheet < 4; sheet++) {
            int missing = sheet;
            refused(Towns.SOME, "fits by a missing sheet", NOTHING, x -> x.fits(missing, 0, 0));
            refused(Towns.SOME, "the least by a missing sheet", NOTHING, x -> x.fits(missing, 0, 1));
        }
        refused(Towns.SOME, "no hand fits", NONE, x -> x.fits(1, 0, 1));
        CHECK.due("how many: none", 0, Towns.SOME.make().fits(1, 0, 0));
    }

    private static void odds() {
        sides(Towns.SOME, "odds' n", 0, 8, BAD, (x, v) -> x.odds(v, 0, 0));
        for (int n = 0; n <= 8; n++) {
            int of = n;
            sides(Towns.SOME, "odds' k of " + n, 0, n, BAD, (x, v) -> x.odds(of, v, 0));
        }
        sides(Towns.SOME, "odds' part", 0, 1, BAD, (x, v) -> x.odds(8, 4, v));
        sides(Towns.SOME, "hope's n", 0, 99, BAD, (x, v) -> x.hope(v, 0));
        sides(Towns.SOME, "hope's part", 0, 1, BAD, (x, v) -> x.hope(9, v));
    }

    private static void rows() {
        one("prove", (x, v) -> x.prove(v, 3));
        sides(Towns.SOME, "prove's n", 1, 10, BAD, (x, v) -> x.prove(0, v));
        one("judge", (x, v) -> x.judge(v));
        int[] rows = {0, 2, 10};
        for (Towns town : Towns.values()) {
            int count = rows[town.ordinal()];
            for (int what = 0; what < 3; what++) {
                int asked = what;
                CallWith row = (x, v) -> x.row(v, asked);
                CallWith alter = (x, v) -> x.alterRow(v, asked, 7);
                below(town, "row, " + what, 0, NO_ROW, row);
                above(town, "row, " + what, count - 1, NO_ROW, row);
                below(town, "alterRow, " + what, 0, NO_ROW, alter);
                above(town, "alterRow, " + what, count - 1, NO_ROW, alter);
                for (int i = 0; i < count; i++) {
                    taken(town, "row, " + what, i, NO_ROW, row);
                    taken(town, "alterRow, " + what, i, NO_ROW, alter);
                }
            }
        }
        sides(Towns.SOME, "row's what", 0, 2, NO_ROW, (x, v) -> x.row(0, v));
        sides(Towns.SOME, "alterRow's what", 0, 2, NO_ROW, (x, v) -> x.alterRow(0, v, 7));
        CHECK.due("alterRow takes the least int", LEAST, alteredTo(LEAST));
        CHECK.due("alterRow takes the most int", MOST, alteredTo(MOST));
    }

    private static int alteredTo(int v) {
        PaintedWalls x = Towns.SOME.make();
        x.alterRow(0, 0, v);
        return x.row(0, 0);
    }

    private static void minds() {
        PaintedWalls wide = new PaintedWalls();
        for (int i = 0; i < 8; i++) { wide.name(0, 0, 50, 0); }
        wide.sheet(0, 0, 8);
        CHECK.due("minds of all eight", 8, wide.minds(0, 0, 0, 8));
        CHECK.due("minds of nine", BAD, wide.minds(0, 0, 0, 9));
        sides(Towns.SOME, "minds' sheet", 0, 3, BAD, (x, v) -> x.minds(v, 0, 0, 0));
        one("minds of one", (x, v) -> x.minds(0, 0, v, 0));
        sides(Towns.SOME, "minds' n from 0", 0, 3, BAD, (x, v) -> x.minds(0, 0, 0, v));
        sides(Towns.SOME, "minds' n from 1", 0, 2, BAD, (x, v) -> x.minds(0, 0, 1, v));
        sides(Towns.SOME, "minds' n from the last", 0, 1, BAD, (x, v) -> x.minds(0, 0, 2, v));
        for (int sheet = 2; sheet < 4; sheet++) {
            int missing = sheet;
            refused(Towns.SOME, "minds by a missing sheet", NOTHING, x -> x.minds(missing, 0, 0, 0));
        }
        refused(Towns.SOME, "minds by ints", OTHER, x -> x.minds(1, 0, 0, 0));
        for (int sheet = 1; sheet < 4; sheet++) {
            int other = sheet;
            refused(Towns.CROWD, "minds by sort " + sheet, OTHER, x -> x.minds(other, 0, 0, 0));
        }
        sides(Towns.SOME, "minds' place for 0", 0, 3, OUTSIDE, (x, v) -> x.minds(0, v, 0, 0));
        sides(Towns.SOME, "minds' place for 1", 0, 2, OUTSIDE, (x, v) -> x.minds(0, v, 0, 1));
        sides(Towns.SOME, "minds' place for 3", 0, 0, OUTSIDE, (x, v) -> x.minds(0, v, 0, 3));
        sides(Towns.CROWD, "minds' place in an empty row", 0, 0, OUTSIDE, (x, v) -> x.minds(0, v, 0, 0));
        refused(Towns.CROWD, "minds of one by an empty row", OUTSIDE, x -> x.minds(0, 0, 0, 1));
    }

    private static void sheets() {
        sides(Towns.SOME, "sheet", 0, 3, BAD, (x, v) -> x.sheet(v, 1, 1));
        sides(Towns.SOME, "sheet to miss", 0, 3, BAD, (x, v) -> x.sheet(v, -1, 1));
        sides(Towns.SOME, "sheet's sort", -1, 3, BAD, (x, v) -> x.sheet(0, v, 1));
        for (int sort = 0; sort < 4; sort++) {
            int of = sort;
            taken(Towns.SOME, "sheet's n", 40, BAD, (x, v) -> x.sheet(0, of, v));
            taken(Towns.SOME, "sheet's n", 0, BELOW_0, (x, v) -> x.sheet(0, of, v));
            above(Towns.SOME, "sheet's n", 40, BAD, (x, v) -> x.sheet(0, of, v));
            below(Towns.SOME, "sheet's n", 0, BELOW_0, (x, v) -> x.sheet(0, of, v));
        }
        for (int n : new int[] {-1, 41, LEAST, MOST}) {
            CHECK.due("n counts nothing when it is to miss", 1, Towns.SOME.make().sheet(0, -1, n));
        }
        sides(Towns.SOME, "put's sheet", 0, 3, BAD, (x, v) -> x.put(v, 0, 7));
        sides(Towns.SOME, "item's sheet", 0, 3, BAD, (x, v) -> x.item(v, 0, 0));
        sides(Towns.SOME, "put's place", 0, 2, OUTSIDE, (x, v) -> x.put(0, v, 7));
        sides(Towns.CROWD, "put's place in the last", 0, 5, OUTSIDE, (x, v) -> x.put(3, v, 7));
        refused(Towns.CROWD, "put in an empty row", OUTSIDE, x -> x.put(0, 0, 7));
        refused(Towns.SOME, "put in a missing one", NOTHING, x -> x.put(2, 0, 7));
        refused(Towns.SOME, "item of a missing one", NOTHING, x -> x.item(3, 0, 0));
        sides(Towns.SOME, "item's place", 0, 2, OUTSIDE, (x, v) -> x.item(0, 0, v));
        sides(Towns.CROWD, "item's place in the last", 0, 5, OUTSIDE, (x, v) -> x.item(3, 3, v));
        refused(Towns.CROWD, "item of an empty row", OUTSIDE, x -> x.item(0, 0, 0));
        for (int sheet = 0; sheet < 4; sheet++) {
            int is = sheet;
            sides(Towns.CROWD, "item's sort", 0, 3, BAD, (x, v) -> x.item(is, v, 0));
            for (int sort = 0; sort < 4; sort++) {
                int as = sort;
                if (as != is) { refused(Towns.CROWD, is + " taken for " + as, OTHER, x -> x.item(is, as, 0)); }
            }
        }
    }

    private static void shelves() {
        sides(Towns.SOME, "shelf of one", 0, 3, BAD, (x, v) -> x.shelf(v, 0, 0));
        sides(Towns.SOME, "shelf of a row", 0, 3, BAD, (x, v) -> x.shelf(v, 1, 0));
        sides(Towns.SOME, "shelf of nothing", 0, 3, BAD, (x, v) -> x.shelf(v, 2, 0));
        sides(Towns.SOME, "shelf's what", 0, 2, BAD, (x, v) -> x.shelf(0, v, 0));
        for (int shelf = 0; shelf < 4; shelf++) {
            int on = shelf;
            one("shelf's one", (x, v) -> x.shelf(on, 0, v));
            sides(Towns.SOME, "shelf's sheet", 0, 3, BAD, (x, v) -> x.shelf(on, 1, v));
        }
        for (int n : new int[] {-1, 4, 8, LEAST, MOST}) {
            CHECK.due("n counts nothing for nothing", 1, Towns.SOME.make().shelf(0, 2, n));
        }
        sides(Towns.CROWD, "taken's shelf", 0, 3, BAD, (x, v) -> x.taken(v, 10));
        sides(Towns.SOME, "taken as a kind", 0, 5, BAD, (x, v) -> x.taken(0, v));
        sides(Towns.SOME, "taken as a row", 10, 13, BAD, (x, v) -> x.taken(1, v));
        for (int as = 6; as < 10; as++) {
            int none = as;
            refused(Towns.SOME, "taken as " + as, BAD, x -> x.taken(0, none));
            refused(Towns.SOME, "a row taken as " + as, BAD, x -> x.taken(1, none));
        }
        for (int as = 0; as < 14; as = as == 5 ? 10 : as + 1) {
            int any = as;
            refused(Towns.SOME, "nothing taken as " + as, NOTHING, x -> x.taken(2, any));
            refused(Towns.SOME, "none such taken as " + as, NOTHING, x -> x.taken(3, any));
            if (as != 12) { refused(Towns.SOME, "a row of ints taken as " + as, OTHER, x -> x.taken(1, any)); }
            boolean isKind = as == 0 || as == 1 || as == 3;
            if (!isKind) { refused(Towns.SOME, "a tempted one taken as " + as, OTHER, x -> x.taken(0, any)); }
        }
    }

    /** act() empties THE TRACE by what it refuses, and changes nothing else. */
    private static void acts() {
        int[][] calls = {{-1, 0}, {4, 0}, {LEAST, 0}, {MOST, 0}, {0, -1}, {0, 4}, {0, LEAST}, {0, MOST},
            {1, 0}, {2, 0}, {3, 0}, {1, 3}, {-1, -1}};
        for (int[] call : calls) {
            PaintedWalls x = Towns.SOME.make();
            String told = "act " + call[1] + " of shelf " + call[0];
            CHECK.due("a trace before " + told, 4, x.many(6));
            CHECK.due(told, 0, x.act(call[0], call[1], 5));
            CHECK.due("no trace behind " + told, 0, x.many(6));
            CHECK.due("no body behind " + told, NONE, x.trace(0));
            String want = PICTURES[Towns.SOME.ordinal()].replace(" trace 20 11 51 10", " trace");
            CHECK.isTrue(told + " changes nothing else", Picture.ofAll(x).equals(want));
        }
        CHECK.isTrue("the last shelf", shelved(3) != 0);
        CHECK.isTrue("the first shelf", shelved(0) != 0);
        sides(Towns.SOME, "trace", 0, 3, NONE, (x, v) -> x.trace(v));
        refused(Towns.BARE, "trace of none", NONE, x -> x.trace(0));
    }

    private static int shelved(int shelf) {
        PaintedWalls x = Towns.SOME.make();
        x.shelf(shelf, 0, 2);
        return x.act(shelf, 0, 5);
    }

    private static void many() {
        for (Towns town : Towns.values()) { sides(town, "many", 0, 6, BAD, (x, v) -> x.many(v)); }
    }

    private static void keptNothing() {
        refused(Towns.BARE, "again, when nothing is kept", NONE, x -> x.again());
        PaintedWalls x = new PaintedWalls();
        x.name(1, 2, 3, 4);
        String was = Picture.of(x);
        CHECK.due("again, when nothing is kept", NONE, x.again());
        CHECK.isTrue("it changes nothing", was.equals(Picture.of(x)));
        CHECK.due("keep", 1, x.keep());
        CHECK.due("again", 1, x.again());
    }

    /** Where several refusals hold, the first named answers. */
    private static void firstNamed() {
        refused(Towns.CROWD, "feed: BAD before FULL (0)", BAD, x -> x.feed(0, 0));
        refused(Towns.CROWD, "feed: BAD before FULL (9)", BAD, x -> x.feed(0, 9));
        refused(Towns.CROWD, "name: BAD before FULL, kind", BAD, x -> x.name(6, 0, 0, 0));
        refused(Towns.CROWD, "name: BAD before FULL, hand", BAD, x -> x.name(0, 10, 0, 0));
        refused(Towns.CROWD, "name: BAD before FULL, size", BAD, x -> x.name(0, 0, 100, 0));
        refused(Towns.CROWD, "name: BAD before FULL, wall", BAD, x -> x.name(0, 0, 0, 10));
        refused(Towns.SOME, "does: BAD before NONE", BAD, x -> x.does(1, 3));
        refused(Towns.SOME, "does: BAD before NONE", BAD, x -> x.does(1, -1));
        refused(Towns.SOME, "bucketsFor: BAD before NONE, n", BAD, x -> x.bucketsFor(31, 0));
        refused(Towns.SOME, "bucketsFor: BAD before NONE, v", BAD, x -> x.bucketsFor(3, -1));
        refused(Towns.CROWD, "waxedFor: BAD before NONE, n", BAD, x -> x.waxedFor(11, 0));
        refused(Towns.CROWD, "waxedFor: BAD before NONE, v", BAD, x -> x.waxedFor(3, -1));
        refused(Towns.SOME, "fits: BAD before -11, one", BAD, x -> x.fits(2, 3, 0));
        refused(Towns.SOME, "fits: BAD before -11, what", BAD, x -> x.fits(2, 0, 2));
        refused(Towns.SOME, "fits: BAD before NONE", BAD, x -> x.fits(1, 0, 2));
        refused(Towns.SOME, "fits: BAD before NONE, one", BAD, x -> x.fits(1, -1, 1));
        refused(Towns.SOME, "minds: BAD before -11, one", BAD, x -> x.minds(2, 0, 3, 0));
        refused(Towns.SOME, "minds: BAD before -11, n", BAD, x -> x.minds(2, 0, 0, 9));
        refused(Towns.SOME, "minds: BAD before -11, beyond the last", BAD, x -> x.minds(2, 0, 2, 2));
        refused(Towns.SOME, "minds: BAD before -13, beyond the last", BAD, x -> x.minds(1, 0, 2, 2));
        refused(Towns.SOME, "minds: BAD before -13, n", BAD, x -> x.minds(1, 0, 0, -1));
        refused(Towns.SOME, "minds: BAD before -12, n", BAD, x -> x.minds(0, 4, 0, 4));
        refused(Towns.SOME, "minds: BAD before -12, one", BAD, x -> x.minds(0, -1, -1, 1));
        refused(Towns.SOME, "minds: -11 before -12", NOTHING, x -> x.minds(2, -1, 0, 1));
        refused(Towns.SOME, "minds: -13 before -12", OTHER, x -> x.minds(1, -1, 0, 1));
        refused(Towns.SOME, "minds: -13 before -12, too many", OTHER, x -> x.minds(1, 0, 0, 3));
        refused(Towns.SOME, "sheet: BAD before -14, sheet", BAD, x -> x.sheet(4, 0, -1));
        refused(Towns.SOME, "sheet: BAD before -14, sort", BAD, x -> x.sheet(0, 4, -1));
        refused(Towns.SOME, "sheet: BAD before -14, sort", BAD, x -> x.sheet(0, -2, -1));
        refused(Towns.SOME, "put: BAD before -12", BAD, x -> x.put(4, -1, 0));
        refused(Towns.SOME, "put: -11 before -12", NOTHING, x -> x.put(2, -1, 0));
        refused(Towns.SOME, "item: BAD before -11, sort", BAD, x -> x.item(2, 4, 0));
        refused(Towns.SOME, "item: BAD before -13, sort", BAD, x -> x.item(1, -1, 0));
        refused(Towns.SOME, "item: BAD before -12, sort", BAD, x -> x.item(0, 4, 9));
        refused(Towns.SOME, "item: BAD before -12, sheet", BAD, x -> x.item(-1, 0, 9));
        refused(Towns.SOME, "item: -11 before -12", NOTHING, x -> x.item(2, 0, -1));
        refused(Towns.SOME, "item: -13 before -12", OTHER, x -> x.item(0, 1, 3));
        refused(Towns.SOME, "taken: BAD before -11, as", BAD, x -> x.taken(2, 6));
        refused(Towns.SOME, "taken: BAD before -13, as", BAD, x -> x.taken(0, 14));
    }
}
