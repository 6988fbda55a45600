/** The edges of the LAWS part: what is held, wrapped, full or empty, just enough or one short of it; promises 1, 4 to 15, 19. */
public final class EdgeTest {
    private static final int NAME = 0, FRESH = 1, COVERED = 2, TEMPTED = 3, GROWN = 4, KEPT = 5, GONE = 10;
    private static final Check CHECK = new Check("EdgeTest");

    private static void due(String call, long want, long got) {
        CHECK.due(call, want, got);
    }

    public static void main(String[] args) {
        firstValues();
        lawsAtTheirEnds();
        nameAtTheEnds();
        growsBySize();
        lureOnGreyAlone();
        coveredByOthers();
        holdsHalfCut();
        holdsByLureAndHand();
        holdsByOthers();
        backByHand();
        eachOfEight();
        mindKeepsTheRest();
        moveAndAway();
        wallsAtTheirEnds();
        looks();
        scrubJustEnough();
        scrubOfKept();
        cleanedByAll();
        cleanedGroundBecomesGrey();
        waxLetsAllGo();
        sizeIsHeld();
        backJustThen();
        backOrMore();
        backOnWhichWall();
        backThenGrows();
        bucketsAndTies();
        bucketsBehindGrowth();
        goneInTheNightIsNotAway();
        nightsAndGlances();
        glancesAreHeld();
        sets();
        CHECK.end();
    }

    /** One of that KIND, by hand 0, ON wall 0, in a town in which no bucket is used. */
    private static PaintedWalls one(int kind, int hand, int size) {
        PaintedWalls x = new PaintedWalls();
        x.set(0, 0);
        x.name(kind, hand, size, 0);
        return x;
    }

    private static void firstValues() {
        PaintedWalls x = new PaintedWalls();
        int[] laws = {1, 2, 30, 20};
        for (int law = 0; law < 4; law++) { due("law " + law + " at first", laws[law], x.lawOf(law)); }
        for (int wall = 0; wall < 10; wall++) {
            due("ground at first", 0, x.wallOf(wall, 0));
            due("seen at first", 3, x.wallOf(wall, 1));
        }
        due("no night has been", 0, x.state(0));
        due("no glances", 0, x.state(1));
        due("no names", 0, x.many(0));
        due("nothing is kept", -3, x.again());
        due("z is 1", 1, x.seed(0));
    }

    private static void lawsAtTheirEnds() {
        int[] most = {9, 9, 99, 99};
        int[] first = {1, 2, 30, 20};
        for (int law = 0; law < 4; law++) {
            PaintedWalls x = new PaintedWalls();
            due("what it was", first[law], x.set(law, most[law]));
            due("the most", most[law], x.lawOf(law));
            due("what it was then", most[law], x.set(law, 0));
            due("the least", 0, x.lawOf(law));
            due("refused", -1, x.set(law, most[law] + 1));
            due("it stays", 0, x.lawOf(law));
            for (int other = 0; other < 4; other++) {
                if (other != law) { due("another law stays", first[other], x.lawOf(other)); }
            }
        }
    }

    private static void nameAtTheEnds() {
        PaintedWalls x = new PaintedWalls();
        due("the least of all", 0, x.name(0, 0, 0, 0));
        due("the most of all", 1, x.name(5, 9, 99, 9));
        int[][] want = {{0, 0, 0, 0, 0}, {5, 9, 99, 9, 0}};
        for (int name = 0; name < 2; name++) {
            for (int what = 0; what < 5; what++) { due("of " + name, want[name][what], x.of(name, what)); }
        }
        for (int name = 2; name < 8; name++) { due("numbered as they come", name, x.name(name - 2, name, name, name)); }
        due("the eighth", 7, x.of(7, 1));
        due("eight at most", -2, x.name(0, 0, 0, 0));
        due("eight", 8, x.many(0));
        x.move(3, GONE);
        due("a gone one is one of the eight", -2, x.name(0, 0, 0, 0));
    }

    private static void does(PaintedWalls x, String told, int name, int what, int want) {
        due(told, 1000 + want, x.does(name, what));
    }

    private static void growsBySize() {
        int[] want = {2, 2, 2, 4, 5, 0};
        for (int size : new int[] {0, 1, 98, 99}) {
            for (int kind = 0; kind < 6; kind++) {
                does(one(kind, 9, size), "grows alone, on old, kind " + kind + " of size " + size, 0, 0, want[kind]);
            }
        }
    }

    private static void lureOnGreyAlone() {
        for (int lure : new int[] {0, 1, 9}) {
            for (int ground = 0; ground < 3; ground++) {
                int more = ground == 1 ? lure : 0;
                int[] want = {2, 2 + more, 2, 2 * (2 + more), 5, 0};
                for (int kind = 0; kind < 6; kind++) {
                    PaintedWalls x = one(kind, 3, 50);
                    x.set(1, lure);
                    x.wall(0, 0, ground);
                    // the ground of another wall counts nothing
                    x.wall(1, 0, ground == 1 ? 0 : 1);
                    does(x, "grows, kind " + kind + ", ground " + ground + ", lure " + lure, 0, 0, want[kind]);
                }
            }
        }
    }

    private static void coveredByOthers() {
        for (int others = 0; others < 8; others++) {
            PaintedWalls x = new PaintedWalls();
            x.name(COVERED, 0, 50, 4);
            for (int i = 0; i < others; i++) { x.name(i % 6, i, i, 4); }
            does(x, "covered by " + others, 0, 0, 2 - others);
            x.mind(0, GROWN, 0);
            does(x, "grown over " + others, 0, 0, 5 - others);
            for (int kind : new int[] {NAME, FRESH, TEMPTED, KEPT}) {
                x.mind(0, kind, 0);
                does(x, "kind " + kind + " does not mind", 0, 0, new int[] {2, 2, 0, 4, 0, 0}[kind]);
            }
        }
        PaintedWalls x = new PaintedWalls();
        x.name(COVERED, 0, 50, 4);
        x.name(NAME, 0, 50, 3);
        x.name(NAME, 0, 50, 5);
        x.name(NAME, 0, 50, 4);
        x.move(3, GONE);
        does(x, "those on other walls and gone ones do not cover", 0, 0, 2);
        x.name(NAME, 0, 0, 4);
        does(x, "one without size does", 0, 0, 1);
    }

    private static void holdsHalfCut() {
        int[][] halves = {{0, 0}, {1, 0}, {2, 1}, {3, 1}, {98, 49}, {99, 49}};
        for (int[] half : halves) {
            int[] want = {half[1], half[1] - 2, half[1] + 5, half[1] + 7, half[1] + 5, 99};
            for (int kind = 0; kind < 6; kind++) {
                does(one(kind, 9, half[0]), "holds, kind " + kind + " of size " + half[0], 0, 1, want[kind]);
            }
        }
    }

    private static void holdsByLureAndHand() {
        for (int lure : new int[] {0, 9}) {
            for (int hand : new int[] {0, 9}) {
                for (int ground = 0; ground < 3; ground++) {
                    int[] want = {5, 5 - lure, 10, 5 - lure + hand, 10, 99};
                    for (int kind = 0; kind < 6; kind++) {
                        PaintedWalls x = one(kind, hand, 11);
                        x.set(1, lure);
                        x.wall(0, 0, ground);
                        does(x, "holds, kind " + kind + " by " + hand + ", lure " + lure, 0, 1, want[kind]);
                    }
                }
            }
        }
        PaintedWalls x = one(FRESH, 9, 0);
        x.set(1, 9);
        does(x, "holds less than nothing", 0, 1, -9);
    }

    private static void holdsByOthers() {
        for (int others = 0; others < 8; others++) {
            PaintedWalls x = new PaintedWalls();
            x.name(GROWN, 0, 99, 9);
            for (int i = 0; i < others; i++) { x.name(i % 6, i, i, 9); }
            does(x, "grown holds by " + others, 0, 1, 54 + others);
            x.mind(0, COVERED, 0);
            does(x, "covered holds by " + others, 0, 1, 54);
        }
        PaintedWalls x = new PaintedWalls();
        x.name(GROWN, 0, 0, 9);
        x.name(NAME, 0, 9, 8);
        x.name(NAME, 0, 9, 9);
        x.move(2, GONE);
        does(x, "not by those on other walls and gone ones", 0, 1, 5);
    }

    private static int backOf(int kind, int hand) {
        int[] grown = {1, 2, 2, 3, 3, 4, 4, 5, 5, 6};
        int[] back = {3, 1, 3 + hand, 1, grown[hand], 9};
        return back[kind];
    }

    private static void backByHand() {
        for (int kind = 0; kind < 6; kind++) {
            for (int hand = 0; hand < 10; hand++) {
                PaintedWalls x = one(kind, hand, 50);
                does(x, "back, kind " + kind + " by " + hand, 0, 2, backOf(kind, hand));
                x.move(0, GONE);
                does(x, "gone: back, kind " + kind + " by " + hand, 0, 2, backOf(kind, hand));
            }
        }
    }

    /** What one does is its own, whatever the others are, ON walls or GONE. */
    private static void eachOfEight() {
        for (int gone = -1; gone < 8; gone++) {
            PaintedWalls x = new PaintedWalls();
            x.set(1, 9);
            for (int i = 0; i < 8; i++) {
                x.name(i % 6, i, 10 * i, i);
                x.wall(i, 0, 1);
            }
            if (gone >= 0) { x.move(gone, GONE); }
            int[] grows = {2, 11, 2, 22, 5, 0, 2, 11};
            int[] holds = {0, -4, 15, 9, 25, 99, 30, 26};
            int[] back = {3, 1, 5, 1, 3, 9, 3, 1};
            for (int i = 0; i < 8; i++) {
                due("grows of " + i, i == gone ? -3 : 1000 + grows[i], x.does(i, 0));
                due("holds of " + i, i == gone ? -3 : 1000 + holds[i], x.does(i, 1));
                does(x, "back of " + i, i, 2, back[i]);
            }
        }
    }

    private static void mindKeepsTheRest() {
        PaintedWalls x = new PaintedWalls();
        x.name(COVERED, 8, 77, 6);
        x.move(0, GONE);
        x.nights(2);
        due("the kind that it was", COVERED, x.mind(0, KEPT, 9));
        int[] want = {KEPT, 9, 77, GONE, 2};
        for (int what = 0; what < 5; what++) { due("of, " + what, want[what], x.of(0, what)); }
        due("the same again", KEPT, x.mind(0, KEPT, 0));
        due("kind", KEPT, x.of(0, 0));
        due("hand 0", 0, x.of(0, 1));
        due("kind 0", KEPT, x.mind(0, NAME, 0));
        due("was kind 0", NAME, x.mind(0, NAME, 0));
        due("paint the most", 77, x.paint(0, 99));
        due("paint the least", 99, x.paint(0, 0));
        due("was 0", 0, x.paint(0, 50));
        due("a gone one may be painted", 50, x.of(0, 2));
    }

    private static void moveAndAway() {
        PaintedWalls x = one(COVERED, 9, 50);
        due("to the last wall", 0, x.move(0, 9));
        due("to the first", 9, x.move(0, 0));
        due("to where it is", 0, x.move(0, 0));
        due("gone", 0, x.move(0, GONE));
        due("away 0 yet", 0, x.of(0, 4));
        x.nights(11);
        due("away eleven", 11, x.of(0, 4));
        due("gone again", GONE, x.move(0, GONE));
        due("away stays", 11, x.of(0, 4));
        due("size stays", 50, x.of(0, 2));
        due("on a wall", GONE, x.move(0, 7));
        due("away 0", 0, x.of(0, 4));
        due("on it", 7, x.of(0, 3));
        due("size stays", 50, x.of(0, 2));
        x.move(0, GONE);
        due("away from 0 anew", 0, x.of(0, 4));
        x.nights(1);
        due("away one", 1, x.of(0, 4));
    }

    private static void wallsAtTheirEnds() {
        for (int wall = 0; wall < 10; wall += 9) {
            PaintedWalls x = new PaintedWalls();
            due("ground was", 0, x.wall(wall, 0, 2));
            due("ground 2", 2, x.wallOf(wall, 0));
            due("seen stays", 3, x.wallOf(wall, 1));
            due("ground was", 2, x.wall(wall, 0, 0));
            due("ground 0", 0, x.wallOf(wall, 0));
            due("seen was", 3, x.wall(wall, 1, 9));
            due("seen 9", 9, x.wallOf(wall, 1));
            due("ground stays", 0, x.wallOf(wall, 0));
            due("seen was", 9, x.wall(wall, 1, 0));
            due("seen 0", 0, x.wallOf(wall, 1));
            due("another wall's ground", 0, x.wallOf(9 - wall, 0));
            due("another wall is seen", 3, x.wallOf(9 - wall, 1));
            due("was 0", 0, x.wall(wall, 1, 1));
            due("ground was 0", 0, x.wall(wall, 0, 1));
            due("ground 1", 1, x.wallOf(wall, 0));
        }
    }

    private static void looks() {
        PaintedWalls x = new PaintedWalls();
        due("of an empty wall", 0, x.wallOf(0, 2));
        for (int i = 0; i < 8; i++) { x.name(KEPT, i, 99, 9); }
        x.wall(9, 1, 9);
        due("the most", 7128, x.wallOf(9, 2));
        due("of all walls", 7128, x.state(2));
        due("all eight on it", 255, x.wallOf(9, 3));
        due("none on another", 0, x.wallOf(8, 3));
        x.wall(9, 1, 1);
        due("seen by one", 792, x.wallOf(9, 2));
        x.wall(9, 1, 0);
        due("not seen", 0, x.wallOf(9, 2));
        due("of all walls", 0, x.state(2));
        due("no walls have looks", 0, x.many(2));
        due("on it all the same", 512, x.state(4));
        x.wall(9, 1, 1);
        for (int i = 0; i < 8; i++) { x.paint(i, 0); }
        due("no size", 0, x.wallOf(9, 2));
        x.paint(7, 1);
        due("one look", 1, x.wallOf(9, 2));
        due("one wall has looks", 1, x.many(2));
        x.paint(7, 99);
        x.move(7, GONE);
        due("a gone one is not looked at", 0, x.state(2));
        x.paint(0, 5);
        x.paint(6, 6);
        x.move(6, 0);
        due("together", 5 + 3 * 6, x.state(2));
        due("two walls", 2, x.many(2));
    }

    /** What each KIND holds by hand 4, of size 21, alone, with lure 2; kept ones by themselves. */
    private static void scrubJustEnough() {
        int[] holds = {10, 8, 15, 12, 15};
        for (int kind = 0; kind < 5; kind++) {
            for (int scrub = holds[kind] - 1; scrub <= holds[kind] + 1; scrub++) {
                for (int ground = 0; ground < 2; ground++) {
                    PaintedWalls x = one(kind, 4, 21);
                    x.wall(0, 0, ground);
                    x.set(2, scrub);
                    int gone = scrub >= holds[kind] ? 1 : 0;
                    due("cleaned of kind " + kind + " by scrub " + scrub, gone, x.clean(0));
                    due("on", gone == 1 ? GONE : 0, x.of(0, 3));
                    due("away", 0, x.of(0, 4));
                    due("size stays", 21, x.of(0, 2));
                    due("grey", 1, x.wallOf(0, 0));
                }
            }
        }
        PaintedWalls x = one(FRESH, 0, 3);
        x.set(2, 0);
        x.set(1, 1);
        due("holds 0, scrub 0", 1, x.clean(0));
        x.move(0, 0);
        x.set(1, 9);
        due("holds -8, scrub 0", 1, x.clean(0));
        x.move(0, 0);
        x.set(1, 0);
        due("holds 1, scrub 0", 0, x.clean(0));
    }

    private static void scrubOfKept() {
        for (int size : new int[] {0, 99}) {
            PaintedWalls x = one(KEPT, 9, size);
            x.set(2, 98);
            due("kept holds 99, not 98", 0, x.clean(0));
            x.set(2, 99);
            due("kept holds no more than 99", 1, x.clean(0));
        }
        PaintedWalls x = new PaintedWalls();
        for (int i = 0; i < 8; i++) { x.name(GROWN, 9, 99, 9); }
        x.set(2, 60);
        due("eight grown ones hold 61", 0, x.clean(9));
        x.set(2, 61);
        due("and no more", 8, x.clean(9));
        due("all are gone", 255, x.state(3));
        due("eight", 8, x.many(1));
    }

    /** One that goes holds the others there still: what it HOLDS is told as the cleaning begins. */
    private static void cleanedByAll() {
        for (int grown = 0; grown < 2; grown++) {
            PaintedWalls x = new PaintedWalls();
            x.name(grown == 0 ? GROWN : NAME, 0, 20, 2);
            x.name(grown == 0 ? NAME : GROWN, 0, 20, 2);
            x.set(2, 15);
            due("the name goes, the grown one holds by it", 1, x.clean(2));
            due("which", 1 << 1 - grown, x.state(3));
            due("alone it goes too", 1, x.clean(2));
            due("an empty wall", 0, x.clean(2));
        }
        PaintedWalls x = new PaintedWalls();
        x.name(NAME, 0, 0, 2);
        x.name(NAME, 0, 0, 3);
        due("that wall alone", 1, x.clean(3));
        due("gone", 2, x.state(3));
        due("the other ground", 0, x.wallOf(2, 0));
    }

    private static void cleanedGroundBecomesGrey() {
        int[] then = {1, 1, 2};
        for (int ground = 0; ground < 3; ground++) {
            for (int wall = 0; wall < 10; wall += 9) {
                PaintedWalls x = new PaintedWalls();
                x.wall(wall, 0, ground);
                due("none there", 0, x.clean(wall));
                due("ground " + ground + " becomes", then[ground], x.wallOf(wall, 0));
                x.name(KEPT, 0, 50, wall);
                x.wall(wall, 0, ground);
                due("none goes", 0, x.clean(wall));
                due("ground " + ground + " becomes", then[ground], x.wallOf(wall, 0));
            }
        }
    }

    private static void waxLetsAllGo() {
        for (int scrub = 0; scrub < 100; scrub += 99) {
            PaintedWalls x = new PaintedWalls();
            for (int kind = 0; kind < 6; kind++) { x.name(kind, 9, 99, 5); }
            x.wall(5, 0, 2);
            x.set(2, scrub);
            x.set(1, 0);
            due("all but the kept one", 5, x.clean(5));
            due("which", 0b011111, x.state(3));
            due("the wax stays", 2, x.wallOf(5, 0));
            for (int kind = 0; kind < 5; kind++) { due("away", 0, x.of(kind, 4)); }
            due("none more", 0, x.clean(5));
        }
    }

    private static void sizeIsHeld() {
        int[][] grown = {{96, 98}, {97, 99}, {98, 99}, {99, 99}};
        for (int[] size : grown) {
            PaintedWalls x = one(NAME, 0, size[0]);
            due("looks", 3 * size[1], x.nights(1));
            due("size", size[1], x.of(0, 2));
        }
        PaintedWalls y = one(TEMPTED, 0, 76);
        y.set(1, 9);
        y.wall(0, 0, 1);
        y.nights(1);
        due("22 more", 98, y.of(0, 2));
        y.nights(1);
        due("held", 99, y.of(0, 2));
        int[][] shrunk = {{0, 0}, {1, 0}, {4, 0}, {5, 0}, {6, 1}, {99, 94}};
        for (int[] size : shrunk) {
            PaintedWalls x = one(COVERED, 0, size[0]);
            for (int i = 0; i < 7; i++) { x.name(KEPT, 0, 0, 0); }
            due("looks", 3 * size[1], x.nights(1));
            due("5 less, held", size[1], x.of(0, 2));
        }
        PaintedWalls x = one(NAME, 0, 50);
        x.move(0, GONE);
        x.nights(1);
        due("a gone one does not grow", 50, x.of(0, 2));
    }

    private static void backJustThen() {
        for (int kind = 0; kind < 6; kind++) {
            for (int hand = 0; hand < 10; hand++) {
                PaintedWalls x = one(kind, hand, 50);
                int back = backOf(kind, hand);
                String told = "kind " + kind + " by " + hand + " ";
                x.move(0, GONE);
                for (int night = 1; night < back; night++) {
                    due(told + "looks while gone", 0, x.nights(1));
                    due(told + "away", night, x.of(0, 4));
                    due(told + "gone", GONE, x.of(0, 3));
                }
                x.nights(1);
                int[] grows = {2, 2, 2, 4, 5, 0};
                due(told + "on", (hand + back - 1) % 10, x.of(0, 3));
                due(told + "away no more", 0, x.of(0, 4));
                due(told + "of size 5, and more", 5 + grows[kind], x.of(0, 2));
            }
        }
    }

    private static void backOrMore() {
        for (int kind : new int[] {NAME, FRESH, TEMPTED}) {
            PaintedWalls x = one(COVERED, 9, 50);
            x.move(0, GONE);
            x.nights(11);
            due("away", 11, x.of(0, 4));
            x.mind(0, kind, 0);
            x.nights(1);
            due("more than it must: on 0 + 11", 1, x.of(0, 3));
            due("away", 0, x.of(0, 4));
        }
        PaintedWalls x = one(COVERED, 9, 50);
        x.move(0, GONE);
        x.nights(2);
        x.mind(0, NAME, 0);
        x.nights(1);
        due("just as many", 2, x.of(0, 3));
    }

    private static void backOnWhichWall() {
        for (int hand = 0; hand < 10; hand++) {
            for (int night : new int[] {1, 9, 10, 11, 60}) {
                PaintedWalls x = one(FRESH, hand, 50);
                x.nights(night);
                x.move(0, GONE);
                x.nights(1);
                due("by hand " + hand + " in night " + night, (hand + night) % 10, x.of(0, 3));
            }
        }
    }

    private static void backThenGrows() {
        PaintedWalls x = new PaintedWalls();
        x.set(0, 0);
        x.set(1, 9);
        for (int i = 0; i < 3; i++) {
            x.name(i == 0 ? GROWN : i == 1 ? GROWN : TEMPTED, 0, 50, 7);
            x.move(i, GONE);
        }
        x.wall(0, 0, 1);
        // all three come ON wall 0, which is grey; each covers the others there before they grow
        due("looks", 3 * (8 + 8 + 27), x.nights(1));
        due("the first of them has the others by it already", 8, x.of(0, 2));
        due("as has the second", 8, x.of(1, 2));
        due("lured at once", 27, x.of(2, 2));
    }

    private static void bucketsAndTies() {
        for (int buckets = 0; buckets <= 9; buckets++) {
            PaintedWalls x = new PaintedWalls();
            for (int i = 0; i < 8; i++) { x.name(NAME, 0, 20, 9 - i); }
            x.set(0, buckets);
            due("looks", 66 * Math.max(0, 8 - buckets), x.nights(1));
            int gone = Math.min(8, buckets);
            due("of several the least: by wall 2 on", (1 << 8) - (1 << 8 - gone), x.state(3));
            due("grey as many", (1 << 2 + gone) - 4, x.state(5));
        }
        PaintedWalls x = new PaintedWalls();
        x.name(NAME, 0, 20, 0);
        x.name(NAME, 0, 20, 9);
        x.wall(9, 1, 4);
        x.nights(1);
        due("the most looks", 0b10, x.state(3));
        PaintedWalls y = new PaintedWalls();
        y.name(KEPT, 0, 0, 4);
        y.name(NAME, 0, 50, 5);
        y.wall(5, 1, 0);
        y.set(0, 9);
        y.nights(1);
        due("no looks, no bucket used", 0, y.state(3));
        due("no ground becomes grey", 0, y.state(5));
        y.paint(0, 1);
        y.wall(4, 1, 1);
        y.nights(1);
        due("one look is enough", 1 << 4, y.state(5));
    }

    private static void bucketsBehindGrowth() {
        PaintedWalls x = new PaintedWalls();
        x.name(TEMPTED, 0, 16, 0);
        x.name(NAME, 0, 18, 1);
        due("16 and 4 is as much as 18 and 2: the least", 60, x.nights(1));
        due("which", 0b01, x.state(3));
        PaintedWalls y = new PaintedWalls();
        y.name(NAME, 0, 18, 0);
        y.name(TEMPTED, 0, 17, 1);
        due("grown first, then cleaned", 60, y.nights(1));
        due("which", 0b10, y.state(3));
        // the second bucket looks anew: a wall that keeps its names is cleaned again
        PaintedWalls z = new PaintedWalls();
        z.name(KEPT, 0, 99, 3);
        z.name(NAME, 0, 9, 4);
        z.set(0, 9);
        z.nights(1);
        due("the kept one takes all buckets", 0, z.state(3));
        due("and its wall alone is grey", 1 << 3, z.state(5));
        z.wall(3, 1, 0);
        z.nights(1);
        due("not seen, it takes none", 0b10, z.state(3));
    }

    private static void goneInTheNightIsNotAway() {
        PaintedWalls x = new PaintedWalls();
        x.name(FRESH, 5, 20, 0);
        x.nights(1);
        due("gone by the bucket", GONE, x.of(0, 3));
        due("away 0 in that night", 0, x.of(0, 4));
        due("its size is as it went", 22, x.of(0, 2));
        due("cleaned again as it comes", 0, x.nights(1));
        due("gone", GONE, x.of(0, 3));
        due("size 5 and 2", 7, x.of(0, 2));
        due("on wall 5 + 1 it was", 1 << 6 | 1, x.state(5));
    }

    private static void nightsAndGlances() {
        PaintedWalls x = one(KEPT, 0, 10);
        due("one", 30, x.nights(1));
        due("night", 1, x.state(0));
        due("glances", 30, x.state(1));
        due("sixty", 30, x.nights(60));
        due("night", 61, x.state(0));
        due("glances", 61 * 30, x.state(1));
        PaintedWalls y = new PaintedWalls();
        y.name(NAME, 0, 10, 0);
        y.name(KEPT, 0, 1, 1);
        y.nights(1);
        due("glances come behind the cleaning", 3, y.state(1));
        due("night by draws", 3, y.night());
        due("is a night", 2, y.state(0));
        due("glances", 6, y.state(1));
    }

    private static void glancesAreHeld() {
        PaintedWalls x = new PaintedWalls();
        x.set(0, 0);
        x.set(3, 0);
        for (int i = 0; i < 8; i++) { x.name(KEPT, 0, 99, 0); }
        x.wall(0, 1, 9);
        due("14 nights", 7128, x.nights(14));
        due("glances", 99792, x.state(1));
        for (int i = 0; i < 8; i++) { x.paint(i, 0); }
        x.wall(0, 1, 1);
        x.paint(0, 99);
        x.paint(1, 99);
        x.paint(2, 8);
        due("206 more", 206, x.nights(1));
        due("one less than all", 99998, x.state(1));
        x.keep();
        x.paint(1, 0);
        x.paint(2, 0);
        x.paint(0, 1);
        x.nights(1);
        due("all", 99999, x.state(1));
        due("one more night", 1, x.nights(1));
        due("held", 99999, x.state(1));
        due("nights go on", 17, x.state(0));
        due("view is not", 60, x.view(60));
        due("kept", 8, x.again());
        due("kept glances", 99998, x.state(1));
        due("206 more", 206, x.night());
        due("held by draws", 99999, x.state(1));
        due("what is gained is not held", 206, x.view(1));
    }

    private static void sets() {
        PaintedWalls x = new PaintedWalls();
        due("none gone", 0, x.state(3));
        due("no walls in use", 0, x.state(4));
        due("none grey", 0, x.state(5));
        for (int i = 0; i < 8; i++) { x.name(NAME, i, 1, i < 4 ? 0 : 9); }
        due("names on 0", 0b00001111, x.wallOf(0, 3));
        due("names on 9", 0b11110000, x.wallOf(9, 3));
        due("walls in use", 1 << 9 | 1, x.state(4));
        for (int wall = 0; wall < 10; wall++) { x.wall(wall, 0, 1); }
        due("all grey", 1023, x.state(5));
        x.wall(9, 0, 0);
        x.wall(0, 0, 2);
        due("neither old nor wax", 0b0111111110, x.state(5));
        for (int i = 0; i < 8; i++) { x.move(i, GONE); }
        due("all gone", 255, x.state(3));
        due("eight gone", 8, x.many(1));
        due("no wall in use", 0, x.state(4));
        due("looks", 0, x.state(2));
        for (int i = 0; i < 8; i++) { x.move(i, i + 2); }
        due("walls 2 to 9", 1020, x.state(4));
        due("eight walls", 8, x.many(2));
        due("eight hands", 8, x.many(3));
    }
}
