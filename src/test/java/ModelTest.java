import java.util.ArrayList;
import java.util.List;
import java.util.Random;

/** Random runs of calls: the class and the model must answer the same, call by call. */
public final class ModelTest {
    private static final int RUNS = 450;
    /** An object is used for at most 512 calls; a step makes some thirty at most. */
    private static final int CALLS = 480;
    private static final String[] WORDS = {"name", "fresh", "covered", "tempted", "grown", "kept", "on", "hand", "size",
        "wall", "old", "grey", "wax", "seen", "buckets", "lure", "scrub", "fear", ";", " ", "0", "3", "9", "10", "099",
        "0001", "100", "7", "x", "names", "A", "\n", "\u00e9"};

    private final Random random;
    private final Check check;
    private final PaintedWalls real = new PaintedWalls();
    private final Model model = new Model();
    private int asked = 0;

    private ModelTest(long seed, Check check) {
        random = new Random(seed);
        this.check = check;
    }

    public static void main(String[] args) {
        Check check = new Check("ModelTest");
        for (int seed = 0; seed < RUNS && check.wrong() < 20; seed++) {
            new ModelTest(seed, check).run(seed);
        }
        check.end();
    }

    private void run(int seed) {
        if (seed % 3 == 0) {
            for (String part : cut(randomText(seed % 2 == 0))) { feed(part, seed); }
        }
        while (asked < CALLS) { step(random.nextInt(60), seed); }
    }

    private static List<String> cut(String text) {
        List<String> parts = new ArrayList<>();
        for (int at = 0; at < text.length(); at += 8) { parts.add(text.substring(at, Math.min(text.length(), at + 8))); }
        return parts;
    }

    private void feed(String part, int seed) {
        long eight = 0;
        for (int i = 0; i < part.length(); i++) { eight |= (part.charAt(i) & 255L) << (8 * i); }
        long fed = eight;
        same(seed, "feed(" + part + ")", () -> real.feed(fed, part.length()), () -> model.feed(fed, part.length()));
    }

    private String randomText(boolean isRight) {
        StringBuilder text = new StringBuilder();
        for (int i = 0; i < 9; i++) {
            String one;
            switch (random.nextInt(4)) {
                case 0: one = "wall " + to(9) + " " + WORDS[10 + to(2)] + (to(1) == 0 ? " seen " + to(9) : "") + ";"; break;
                case 1: one = WORDS[14 + to(3)] + " " + to(9) + ";"; break;
                default: one = WORDS[to(5)] + " on" + (to(1) == 0 ? " " : "") + to(9) + (to(1) == 0 ? "hand " + to(9) : "")
                    + (to(1) == 0 ? " size " + to(99) : "") + " ;"; break;
            }
            if (text.length() + one.length() <= 190) { text.append(one); }
        }
        for (int i = isRight ? 0 : 1 + to(1); i > 0; i--) {
            int at = to(text.length());
            text.insert(at, WORDS[to(WORDS.length - 1)]);
        }
        String all = text.toString();
        return all.substring(0, Math.min(all.length(), isRight || to(1) == 0 ? 200 : to(all.length())));
    }

    private int to(int most) { return random.nextInt(most + 1); }

    /** Mostly from least to most, now and then beyond. */
    private int near(int least, int most) {
        switch (random.nextInt(40)) {
            case 0: return least - 1;
            case 1: return most + 1;
            case 2: return random.nextInt();
            case 3: return random.nextBoolean() ? Integer.MIN_VALUE : Integer.MAX_VALUE;
            default: return least + to(most - least);
        }
    }

    private int nameNear() { return near(0, Math.max(0, model.city.names.size() - 1)); }

    private interface Call { long answer(); }

    private void same(int seed, String told, Call got, Call want) {
        long due;
        asked++;
        try {
            due = want.answer();
        } catch (Model.Refused r) {
            due = r.answer;
        }
        check.due("seed " + seed + ": " + told, due, got.answer());
    }

    private void step(int which, int seed) {
        int a, b, c, d;
        switch (which) {
            case 0: {
                if (to(3) > 0) { return; }
                for (String part : cut(randomText(to(2) > 0))) { feed(part, seed); }
                same(seed, "town()", real::town, model::town);
                return;
            }
            case 1: a = near(0, 3); b = near(0, a < 2 ? 9 : 99); same(seed, "set(" + a + "," + b + ")", () -> real.set(a, b), () -> model.set(a, b)); return;
            case 2: a = near(0, 3); same(seed, "lawOf(" + a + ")", () -> real.lawOf(a), () -> model.lawOf(a)); return;
            case 3: case 4: case 5:
                a = near(0, 5); b = near(0, 9); c = near(0, 99); d = near(0, 9);
                same(seed, "name(" + a + "," + b + "," + c + "," + d + ")", () -> real.name(a, b, c, d), () -> model.name(a, b, c, d)); return;
            case 6: case 7: a = nameNear(); b = near(0, 4); same(seed, "of(" + a + "," + b + ")", () -> real.of(a, b), () -> model.of(a, b)); return;
            case 8: case 9: a = nameNear(); b = near(0, 2); same(seed, "does(" + a + "," + b + ")", () -> real.does(a, b), () -> model.does(a, b)); return;
            case 10: a = nameNear(); b = near(0, 5); c = near(0, 9); same(seed, "mind(" + a + "," + b + "," + c + ")", () -> real.mind(a, b, c), () -> model.mind(a, b, c)); return;
            case 11: a = nameNear(); b = near(0, 99); same(seed, "paint(" + a + "," + b + ")", () -> real.paint(a, b), () -> model.paint(a, b)); return;
            case 12: a = nameNear(); b = near(0, 10); same(seed, "move(" + a + "," + b + ")", () -> real.move(a, b), () -> model.move(a, b)); return;
            case 13: case 14: a = near(0, 9); b = near(0, 1); c = near(0, b == 0 ? 2 : 9);
                same(seed, "wall(" + a + "," + b + "," + c + ")", () -> real.wall(a, b, c), () -> model.wall(a, b, c)); return;
            case 15: case 16: a = near(0, 9); b = near(0, 3); same(seed, "wallOf(" + a + "," + b + ")", () -> real.wallOf(a, b), () -> model.wallOf(a, b)); return;
            case 17: a = near(0, 9); same(seed, "clean(" + a + ")", () -> real.clean(a), () -> model.clean(a)); return;
            case 18: a = to(3) == 0 ? near(1, 60) : 1 + to(3); same(seed, "nights(" + a + ")", () -> real.nights(a), () -> model.nights(a)); return;
            case 19: a = random.nextInt(); same(seed, "seed(" + a + ")", () -> real.seed(a), () -> model.seed(a)); return;
            case 20: case 21: same(seed, "night()", real::night, model::night); return;
            case 22: a = near(1, 30); same(seed, "shy(" + a + ")", () -> real.shy(a), () -> model.shy(a)); return;
            case 23: case 24: a = near(0, 5); same(seed, "state(" + a + ")", () -> real.state(a), () -> model.state(a)); return;
            case 25: a = near(0, 60); same(seed, "view(" + a + ")", () -> real.view(a), () -> model.view(a)); return;
            case 26: a = nameNear(); same(seed, "stays(" + a + ")", () -> real.stays(a), () -> model.stays(a)); return;
            case 27: a = nameNear(); same(seed, "comes(" + a + ")", () -> real.comes(a), () -> model.comes(a)); return;
            case 28: same(seed, "clear()", real::clear, model::clear); return;
            case 29: a = near(1, 30); same(seed, "firstFor(" + a + ")", () -> real.firstFor(a), () -> model.firstFor(a)); return;
            case 30: a = near(0, 9); b = near(1, 30); same(seed, "groundFor(" + a + "," + b + ")", () -> real.groundFor(a, b), () -> model.groundFor(a, b)); return;
            case 31: a = nameNear(); b = near(1, 30); same(seed, "kindFor(" + a + "," + b + ")", () -> real.kindFor(a, b), () -> model.kindFor(a, b)); return;
            default: laterStep(which, seed); return;
        }
    }

    /** About as much as may be seen behind n nights, so that both answers come. */
    private int seenNear(int n) {
        if (n < 1 || n > 30 || to(9) == 0) { return near(0, 99999); }
        return to(Math.min(99999, model.view(n) * 5 / 4));
    }

    private void laterStep(int which, int seed) {
        int a, b, c, d;
        switch (which) {
            case 32: a = near(1, 30); b = seenNear(a); same(seed, "bucketsFor(" + a + "," + b + ")", () -> real.bucketsFor(a, b), () -> model.bucketsFor(a, b)); return;
            case 33: if (to(3) > 0) { return; }
                a = near(1, 10); b = seenNear(a); same(seed, "waxedFor(" + a + "," + b + ")", () -> real.waxedFor(a, b), () -> model.waxedFor(a, b)); return;
            case 34: a = near(0, 1); b = nameNear(); same(seed, "hands(" + a + "," + b + ")", () -> real.hands(a, b), () -> model.hands(a, b)); return;
            case 35: case 36: a = near(0, 3); b = nameNear(); c = near(0, 1); same(seed, "fits(" + a + "," + b + "," + c + ")", () -> real.fits(a, b, c), () -> model.fits(a, b, c)); return;
            case 37: a = near(0, 8); b = near(0, Math.max(0, a % 9)); c = near(0, 1); same(seed, "odds(" + a + "," + b + "," + c + ")", () -> real.odds(a, b, c), () -> model.odds(a, b, c)); return;
            case 38: a = near(0, 99); b = near(0, 1); same(seed, "hope(" + a + "," + b + ")", () -> real.hope(a, b), () -> model.hope(a, b)); return;
            case 39: case 40: a = nameNear(); b = near(1, 10); same(seed, "prove(" + a + "," + b + ")", () -> real.prove(a, b), () -> model.prove(a, b)); return;
            case 41: a = near(0, 9); b = near(0, 2); same(seed, "row(" + a + "," + b + ")", () -> real.row(a, b), () -> model.row(a, b)); return;
            case 42: a = near(0, 9); b = near(0, 2); c = near(0, 99); same(seed, "alterRow(" + a + "," + b + "," + c + ")", () -> real.alterRow(a, b, c), () -> model.alterRow(a, b, c)); return;
            case 43: case 44: a = nameNear(); same(seed, "judge(" + a + ")", () -> real.judge(a), () -> model.judge(a)); return;
            case 45: a = near(0, 3); b = near(0, 4); c = nameNear(); d = near(0, 4);
                same(seed, "minds(" + a + "," + b + "," + c + "," + d + ")", () -> real.minds(a, b, c, d), () -> model.minds(a, b, c, d)); return;
            case 46: case 47: a = near(0, 3); b = near(to(5) == 0 ? -1 : 0, 3); c = near(0, to(2) == 0 ? 40 : 5);
                same(seed, "sheet(" + a + "," + b + "," + c + ")", () -> real.sheet(a, b, c), () -> model.sheet(a, b, c)); return;
            case 48: case 49: a = near(0, 3); b = near(0, 5); c = to(1) == 0 ? near(-1, 10) : near(-200, 200);
                same(seed, "put(" + a + "," + b + "," + c + ")", () -> real.put(a, b, c), () -> model.put(a, b, c)); return;
            case 50: a = near(0, 3); b = near(0, 3); c = near(0, 5); same(seed, "item(" + a + "," + b + "," + c + ")", () -> real.item(a, b, c), () -> model.item(a, b, c)); return;
            case 51: case 52: a = near(0, 3); b = near(0, 2); c = b == 0 ? nameNear() : near(0, 3);
                same(seed, "shelf(" + a + "," + b + "," + c + ")", () -> real.shelf(a, b, c), () -> model.shelf(a, b, c)); return;
            case 53: a = near(0, 3); b = near(to(1) * 10, 13); same(seed, "taken(" + a + "," + b + ")", () -> real.taken(a, b), () -> model.taken(a, b)); return;
            case 54: case 55: case 56:
                a = near(0, 3); b = near(0, 3); c = near(-20, 20);
                same(seed, "act(" + a + "," + b + "," + c + ")", () -> real.act(a, b, c), () -> model.act(a, b, c));
                for (int i = -1; i < 13; i++) { int at = i; same(seed, "trace(" + at + ")", () -> real.trace(at), () -> model.trace(at)); }
                return;
            case 57: case 58: a = near(0, 6); same(seed, "many(" + a + ")", () -> real.many(a), () -> model.many(a)); return;
            default:
                if (to(2) == 0) { same(seed, "keep()", real::keep, model::keep); }
                if (to(2) == 0) { same(seed, "again()", real::again, model::again); }
        }
    }
}
