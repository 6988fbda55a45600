/** The edges of THE TAPE and the TEXT: every place at which it may be at fault, every number's ends; promises 2 and 3. */
public final class TextEdgeTest {
    private static final Check CHECK = new Check("TextEdgeTest");
    private static final String[] KINDS = {"name", "fresh", "covered", "tempted", "grown", "kept"};
    private static final String[] LAWS = {"buckets", "lure", "scrub", "fear"};
    private static final String[] GROUNDS = {"old", "grey", "wax"};
    private static final String NAME = "kept on 9 hand 8 size 7;";
    private static final String WALL = "wall 3 wax seen 4;";
    private static final String LAW = "fear 50;";

    private static void due(String call, long want, long got) {
        CHECK.due(call, want, got);
    }

    public static void main(String[] args) {
        lowestByteFirst();
        tapeToTheBrim();
        faultUsesUpTheTape();
        emptyTexts();
        kindsByTheirWords();
        withoutHandOrSize();
        wallsByTheirWords();
        lawsByTheirWords();
        numbersAtTheirEnds();
        digits();
        wordsAsLongAsTheyGo();
        bytesThatStandNowhere();
        endsAtEveryPlace();
        wrongAtEveryPlace();
        missingAtEveryPlace();
        everyLetter();
        blanksWhereOneLikes();
        theNinth();
        eachByItself();
        allAnewByTheTextAlone();
        CHECK.end();
    }

    /** The text is right, and has so many NAMES. */
    private static PaintedWalls right(String text, int names) {
        PaintedWalls x = new PaintedWalls();
        due("town of " + text, names, Check.town(x, text));
        return x;
    }

    private static void fault(String text, int place) {
        PaintedWalls x = new PaintedWalls();
        due("town of " + text, -100 - place, Check.town(x, text));
        due("the tape is used up", 0, x.many(5));
        due("no names", 0, x.many(0));
    }

    private static void lowestByteFirst() {
        PaintedWalls x = new PaintedWalls();
        due("lure 1;", 7, x.feed(0x003B31206572756CL, 7));
        due("town", 0, x.town());
        due("told", 1, x.lawOf(1));
        // the eighth byte is the sign's
        due("eight bytes, the highest 128 and more", 8, x.feed(0xFF3B38206572756CL, 8));
        due("a byte of 255 stands nowhere", -107, x.town());
        due("bytes above n count nothing", 7, x.feed(0xFF3B38206572756CL, 7));
        due("town", 0, x.town());
        due("told", 8, x.lawOf(1));
        for (int n = 1; n <= 8; n++) {
            due("of eight blanks", n, x.feed(0x2020202020202020L, n));
            due("so many come", n, x.many(5));
            due("blanks", 0, x.town());
        }
        due("one byte", 1, x.feed(0x4141414141414120L, 1));
        due("was a blank", 0, x.town());
    }

    private static void tapeToTheBrim() {
        PaintedWalls x = new PaintedWalls();
        for (int i = 1; i <= 25; i++) { due("eight more", 8 * i, x.feed(0x2020202020202020L, 8)); }
        due("200", 200, x.many(5));
        due("one too many", -2, x.feed(0x20, 1));
        due("200 still", 200, x.many(5));
        due("town", 0, x.town());
        String text = "name on 1;fresh on 2;covered on 3;tempted on 4;grown on 5;kept on 6;name on 7;name on 8 hand 7 size 63;";
        String full = text + " ".repeat(200 - text.length() - 8) + "scrub 7;";
        due("200 signs", 200, full.length());
        due("a text of 200", 8, Check.town(x, full));
        due("its last statement", 7, x.lawOf(2));
        due("its last name", 63, x.of(7, 2));
        due("the end of a full tape", -300, Check.town(x, full.substring(0, 199) + " "));
        due("the last byte of a full tape", -299, Check.town(x, full.substring(0, 199) + "?"));
        due("the names stay", 8, x.many(0));
        due("199, one more is missing", -299, Check.town(x, full.substring(0, 199)));
    }

    private static void faultUsesUpTheTape() {
        PaintedWalls x = new PaintedWalls();
        Check.town(x, "grown on 7 hand 6 size 55;lure 9;wall 4 grey seen 1;");
        x.prove(0, 4);
        x.move(0, 10);
        x.nights(1);
        String was = Picture.of(x);
        for (String text : new String[] {"?", "name on 1;fresh on 2;wall 9 wax seen 9;fear 9;lure 0;x", NAME + "name on 10;"}) {
            CHECK.isTrue("fault of " + text, Check.town(x, text) <= -100);
            CHECK.isTrue("nothing of it is taken: " + text, was.equals(Picture.of(x)));
        }
        due("the rows stay", 4, x.many(4));
        due("no text is a town", 0, x.town());
        due("without rows", 0, x.many(4));
        due("nor names", 0, x.many(0));
    }

    private static void emptyTexts() {
        for (String text : new String[] {"", " ", "        ", " ".repeat(200)}) { right(text, 0); }
        fault(";", 0);
        fault(" ;", 1);
        fault("lure 1;;", 7);
        fault("lure 1; ;", 8);
    }

    private static void kindsByTheirWords() {
        for (int kind = 0; kind < 6; kind++) {
            PaintedWalls x = right(KINDS[kind] + " on " + kind + " hand 9 size 99;", 1);
            int[] want = {kind, 9, 99, kind, 0};
            for (int what = 0; what < 5; what++) { due(KINDS[kind] + ", " + what, want[what], x.of(0, what)); }
            fault(KINDS[kind] + "s on 1;", 0);
            fault(KINDS[kind].substring(1) + " on 1;", 0);
            fault(KINDS[kind].substring(0, KINDS[kind].length() - 1) + " on 1;", 0);
            fault(KINDS[kind] + " 1;", KINDS[kind].length() + 1);
            fault(KINDS[kind] + ";", KINDS[kind].length());
            fault(KINDS[kind], KINDS[kind].length());
            fault(KINDS[kind].toUpperCase() + " on 1;", 0);
        }
    }

    private static void withoutHandOrSize() {
        String[] texts = {"name on 4;", "name on 4 hand 0;", "name on 4 hand 3;", "name on 4 size 0;", "name on 4 size 6;",
            "name on 4 hand 9 size 99;"};
        int[] hands = {0, 0, 3, 0, 0, 9};
        int[] sizes = {5, 5, 5, 0, 6, 99};
        for (int i = 0; i < texts.length; i++) {
            PaintedWalls x = right(texts[i], 1);
            due("hand of " + texts[i], hands[i], x.of(0, 1));
            due("size of " + texts[i], sizes[i], x.of(0, 2));
        }
        fault("name on 4 size 6 hand 3;", 17);
        fault("name on 4 size 6 size 6;", 17);
        fault("name on 4 hand 3 hand 3;", 17);
        fault("name hand 3 on 4;", 5);
        fault("name on 4 hand 3 size 6 hand 3;", 24);
    }

    private static void wallsByTheirWords() {
        for (int ground = 0; ground < 3; ground++) {
            for (int wall = 0; wall < 10; wall += 9) {
                PaintedWalls x = right("wall " + wall + " " + GROUNDS[ground] + ";", 0);
                due("ground", ground, x.wallOf(wall, 0));
                due("seen as it is", 3, x.wallOf(wall, 1));
                due("another's ground", 0, x.wallOf(9 - wall, 0));
            }
            fault("wall 1 " + GROUNDS[ground] + "s;", 7);
            fault("wall 1 " + GROUNDS[ground].substring(1) + ";", 7);
            fault("wall 1 " + GROUNDS[ground] + " " + GROUNDS[ground] + ";", 8 + GROUNDS[ground].length());
            fault(GROUNDS[ground] + " 1;", 0);
        }
        PaintedWalls x = right("wall 1 wax seen 8;wall 1 old;wall 2 grey;wall 2 old seen 0;", 0);
        due("told twice", 0, x.wallOf(1, 0));
        due("seen as it is, not as at first", 8, x.wallOf(1, 1));
        due("told twice", 0, x.wallOf(2, 0));
        due("seen", 0, x.wallOf(2, 1));
        fault("wall 1;", 6);
        fault("wall 1 seen 3;", 7);
        fault("wall 1 wax seen 3 wax;", 18);
        fault("walls 1 wax;", 0);
        fault("wal 1 wax;", 0);
    }

    private static void lawsByTheirWords() {
        int[] first = {1, 2, 30, 20};
        for (int law = 0; law < 4; law++) {
            PaintedWalls x = right(LAWS[law] + " 7;", 0);
            for (int other = 0; other < 4; other++) {
                due(LAWS[law] + " told, law " + other, other == law ? 7 : first[other], x.lawOf(other));
            }
            due("the last one told counts", 4, right(LAWS[law] + " 7;" + LAWS[law] + " 4;", 0).lawOf(law));
            fault(LAWS[law] + "s 7;", 0);
            fault(LAWS[law].substring(1) + " 7;", 0);
            fault(LAWS[law] + ";", LAWS[law].length());
            fault(LAWS[law] + " 7 7;", LAWS[law].length() + 3);
            fault(LAWS[law] + " x;", LAWS[law].length() + 1);
        }
    }

    private static void number(String before, int most, String behind) {
        int names = before.startsWith("kept") ? 1 : 0;
        right(before + 0 + behind, names);
        right(before + most + behind, names);
        fault(before + (most + 1) + behind, before.length());
        fault(before + 999 + behind, before.length());
        fault(before + "-1" + behind, before.length());
        fault(before + "x" + behind, before.length());
    }

    private static void numbersAtTheirEnds() {
        number("kept on ", 9, ";");
        number("kept on 1 hand ", 9, ";");
        number("kept on 1 hand ", 9, " size 1;");
        number("kept on 1 size ", 99, ";");
        number("kept on 1 hand 2 size ", 99, ";");
        number("wall ", 9, " old;");
        number("wall 2 grey seen ", 9, ";");
        number("buckets ", 9, ";");
        number("lure ", 9, ";");
        number("scrub ", 99, ";");
        number("fear ", 99, ";");
        int[] most = {9, 9, 99, 99};
        for (int law = 0; law < 4; law++) {
            due("0", 0, right(LAWS[law] + " 0;", 0).lawOf(law));
            due("the most", most[law], right(LAWS[law] + " " + most[law] + ";", 0).lawOf(law));
        }
        due("seen 0", 0, right("wall 9 old seen 0;", 0).wallOf(9, 1));
        due("seen 9", 9, right("wall 9 old seen 9;", 0).wallOf(9, 1));
        due("on 0", 0, right("name on 0;", 1).of(0, 3));
        due("on 9", 9, right("name on 9;", 1).of(0, 3));
    }

    private static void digits() {
        String[] numbers = {"7", "07", "007"};
        for (String number : numbers) {
            due(number, 7, right("lure " + number + ";", 0).lawOf(1));
            due(number, 7, right("kept on " + number + ";", 1).of(0, 3));
        }
        due("three digits", 42, right("fear 042;", 0).lawOf(3));
        due("three digits", 0, right("fear 000;", 0).lawOf(3));
        fault("lure 0007;", 5);
        fault("fear 0042;", 5);
        fault("lure 0000;", 5);
        fault("lure 00000000000000000000000000000000007;", 5);
        fault("fear 4294967297;", 5);
        fault("fear 1000;", 5);
        fault("fear 0 0;", 7);
        fault("fear 4 2;", 7);
        fault("kept on 0001 hand 99;", 8);
        fault("kept on 1 hand 0001;", 15);
        fault("kept on 1 size 0001;", 15);
        fault("wall 0001 old;", 5);
        fault("wall 1 old seen 0001;", 16);
        fault("7;", 0);
        fault("lure 7lure 7;", 6);
    }

    private static void wordsAsLongAsTheyGo() {
        fault("nameon 1;", 0);
        fault("name onx 1;", 5);
        fault("name on 1 handa 2;", 10);
        fault("name on 1 size2a;", 15);
        fault("z", 0);
        fault("a", 0);
        fault("namez on 1;", 0);
        fault("namea on 1;", 0);
        fault("aname on 1;", 0);
        fault("zname on 1;", 0);
        fault("lure lure;", 5);
        fault("on 1;", 0);
        fault("hand 1;", 0);
        fault("size 1;", 0);
        fault("seen 1;", 0);
        PaintedWalls x = right("name on0hand9size00;wall9wax seen0;fear9;", 1);
        due("a word ends where digits begin", 9, x.of(0, 1));
        due("digits end where a word begins", 0, x.of(0, 2));
        due("seen", 0, x.wallOf(9, 1));
        due("fear", 9, x.lawOf(3));
    }

    /** Signs beside those that stand somewhere, and the ends of the bytes. */
    private static void bytesThatStandNowhere() {
        int[] bytes = {0, 1, 9, 10, 13, 31, 33, '/', ':', '<', '@', 'A', 'Z', '[', '`', '{', 127, 128, 160, 255, '-', '+', '.', ','};
        for (int b : bytes) {
            String one = "" + (char) b;
            fault(one, 0);
            fault(" " + one, 1);
            fault("name" + one + "on 1;", 4);
            fault("na" + one + "me on 1;", 0);
            fault("name on 1" + one + ";", 9);
            fault("name on" + one + "1;", 7);
            fault("fear 1" + one + "2;", 6);
            fault("fear" + one + "1;", 4);
            fault("fear 1;" + one, 7);
            fault("fear 1; " + one + "fear 1;", 8);
            fault("wall 1 wax" + one + ";", 10);
        }
        fault("name;on 1;", 4);
        fault("name on;1;", 7);
        fault("fear 1;2;", 7);
    }

    /** Where more must come, the fault is the end, with blanks before it too. */
    private static void endsAtEveryPlace() {
        for (String text : new String[] {NAME, WALL, LAW}) {
            int from = 0;
            for (int at = 1; at < text.length(); at++) {
                boolean isCut = text.charAt(at) == ' ' || text.charAt(at) == ';';
                if (!isCut) { continue; }
                fault(text.substring(0, at), at);
                fault(text.substring(0, at) + "   ", at + 3);
                fault(LAW + text.substring(0, at), LAW.length() + at);
                // a word cut short is no such word, though more might come
                boolean isWord = text.charAt(from) >= 'a';
                if (isWord && at - from > 1) { fault(text.substring(0, at - 1), from); }
                from = at + 1;
            }
        }
        fault("name on 1 hand", 14);
        fault("name on 1 hand 2", 16);
        fault("name on 1 size", 14);
        fault("name on 1", 9);
        fault("wall 1 old", 10);
    }

    /** Every word, number and sign of a statement in turn becomes one that can't stand there: the fault is its first byte. */
    private static void wrongAtEveryPlace() {
        for (String text : new String[] {NAME, WALL, LAW}) {
            int from = 0;
            for (int at = 1; at <= text.length(); at++) {
                boolean ends = at == text.length() || text.charAt(at) == ' ' || text.charAt(at) == ';';
                if (!ends) { continue; }
                String before = text.substring(0, from);
                String behind = text.substring(at);
                for (String wrong : new String[] {"size", "wall", "fear", "x", "?", "1000", ";", "!"}) {
                    boolean mayStand = wrong.equals(text.substring(from, at))
                        || wrong.equals(";") && (text.equals(NAME) && (from == 10 || from == 17) || text.equals(WALL) && from == 11)
                        || wrong.equals("size") && text.equals(NAME) && from == 10
                        || from == 0 && (wrong.equals("wall") || wrong.equals("fear"));
                    if (!mayStand) { fault(before + ' ' + wrong + ' ' + behind, from + 1); }
                }
                from = at < text.length() && text.charAt(at) == ' ' ? at + 1 : at;
            }
        }
        fault("name on 1 size hand 1;", 15);
        fault("wall 1 wax hand 1;", 11);
        fault("name on 1 seen 1;", 10);
        fault("fear 1 seen 1;", 7);
        fault("fear 1 hand 1;", 7);
    }

    /** Every word, number and sign of a statement in turn is left out: the fault is what stands in its stead. */
    private static void missingAtEveryPlace() {
        String[][] statements = {{"kept", "on", "9", "hand", "8", "size", "7", ";"}, {"wall", "3", "wax", "seen", "4", ";"}, {"fear", "50", ";"}};
        for (String[] words : statements) {
            for (int missing = 0; missing < words.length; missing++) {
                StringBuilder text = new StringBuilder();
                int place = -1;
                for (int i = 0; i < words.length; i++) {
                    if (i == missing) { continue; }
                    if (i == missing + 1) { place = text.length(); }
                    text.append(words[i]).append(' ');
                }
                fault(text.toString(), place < 0 ? text.length() : place);
                // what begins the next one can't stand there either
                int end = text.length();
                if (place < 0) { fault(text + "fear 1;", end); }
            }
        }
        fault("kept on 9 hand;", 14);
        fault("kept on 9 size;", 14);
        fault("wall old;", 5);
        fault("wall wax seen 4;", 5);
    }

    /** Each letter of each word counts. */
    private static void everyLetter() {
        for (String text : new String[] {NAME, WALL, "kept on 1 size 2;", "wall 1 old;", "wall 1 grey;", "name on 1;", "fresh on 1;",
            "covered on 1;", "tempted on 1;", "grown on 1;", "buckets 1;", "lure 1;", "scrub 1;", "fear 1;"}) {
            int from = 0;
            for (int at = 0; at < text.length(); at++) {
                char letter = text.charAt(at);
                if (letter == ' ') { from = at + 1; }
                if (letter < 'a') { continue; }
                for (char other : new char[] {'a', 'z', (char) (letter ^ 1)}) {
                    boolean isLetter = other >= 'a' && other <= 'z' && other != letter;
                    if (isLetter) { fault(text.substring(0, at) + other + text.substring(at + 1), from); }
                }
                fault(text.substring(0, at) + letter + text.substring(at), from);
            }
        }
    }

    private static void blanksWhereOneLikes() {
        PaintedWalls x = right("   kept   on   1   hand   2   size   3   ;   wall   4   wax   seen   5   ;   lure   6   ;   ", 1);
        int[] want = {5, 2, 3, 1};
        for (int what = 0; what < 4; what++) { due("of, " + what, want[what], x.of(0, what)); }
        due("ground", 2, x.wallOf(4, 0));
        due("seen", 5, x.wallOf(4, 1));
        due("lure", 6, x.lawOf(1));
        right("kept on 1;kept on 2;", 2);
        fault("ke pt on 1;", 0);
        fault("kept o n 1;", 5);
        fault("fear 1 2;", 7);
        fault("   fear   100   ;", 10);
        fault("     x", 5);
    }

    private static void theNinth() {
        String seven = "name on 1;".repeat(7);
        for (int kind = 0; kind < 6; kind++) {
            String eight = seven + KINDS[kind] + " on 2;";
            due("the eighth", kind, right(eight, 8).of(7, 0));
            right(eight + "fear 1;wall 1 wax;", 8);
            fault(eight + KINDS[kind] + " on 2;", eight.length());
            fault(eight + "  " + KINDS[kind], eight.length() + 2);
            fault(eight + KINDS[kind] + " on x", eight.length());
            fault(eight + "fear 1;" + KINDS[kind] + " on 2;", eight.length() + 7);
            fault(eight + KINDS[kind] + "s", eight.length());
        }
        PaintedWalls x = right("name on 1;".repeat(8), 8);
        due("eight again", 8, Check.town(x, "kept on 2;".repeat(8)));
        due("then none", 0, x.town());
        due("numbered from 0 again", 0, x.name(0, 0, 0, 0));
    }

    /** What one statement tells does not go on into the next. */
    private static void eachByItself() {
        PaintedWalls x = right("tempted on 7 hand 6 size 88;name on 1;fresh on 2 hand 4;kept on 3 size 2;", 4);
        int[][] want = {{3, 6, 88, 7}, {0, 0, 5, 1}, {1, 4, 5, 2}, {5, 0, 2, 3}};
        for (int name = 0; name < 4; name++) {
            for (int what = 0; what < 4; what++) { due("name " + name + ", " + what, want[name][what], x.of(name, what)); }
        }
    }

    private static void allAnewByTheTextAlone() {
        PaintedWalls x = Towns.SOME.make();
        x.seed(4242);
        x.town();
        x.keep();
        PaintedWalls y = new PaintedWalls();
        y.seed(4242);
        due("the text", 1, Check.town(y, "lure 7;grown on 2;"));
        CHECK.isTrue("as in a new object, and z", Picture.ofKeepable(x).equals(Picture.ofKeepable(y)));
        due("z stays", 4242, x.seed(1));
        due("no rows", 0, x.many(4));
        due("no night", 0, x.state(0));
        due("no glances", 0, x.state(1));
        due("sheets stay", 99, x.item(0, 0, 2));
        due("shelves stay: what is number 0 now", 0, x.taken(0, 4));
        due("a row stays", 2, x.taken(1, 12));
        due("the trace stays", 4, x.many(6));
        // a town told again has nothing of how the one before went on
        x.move(0, 10);
        x.nights(2);
        due("one", 1, Check.town(x, "covered on 2;"));
        due("not away", 0, x.of(0, 4));
        due("on", 2, x.of(0, 3));
        due("what was kept stays", 1, x.again());
        due("the kept one", 4, x.of(0, 0));
    }
}
