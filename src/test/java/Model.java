import java.util.ArrayList;
import java.util.Arrays;
import java.util.HashSet;
import java.util.List;
import java.util.Set;
import java.util.function.Consumer;

/**
 * The document a second time, told as it stands there: names are objects of classes under one another, tried towns
 * are whole copies, every set is tried, the text is cut into tokens by a list. Slow, and for tests alone.
 */
final class Model {
    static final int GONE = 10;

    static final class Refused extends RuntimeException {
        private static final long serialVersionUID = 1;
        final int answer;

        Refused(int answer) {
            this.answer = answer;
        }
    }

    static class Name {
        City city;
        int number;
        int hand;
        int size;
        int on;
        int away;
        List<Integer> trace = new ArrayList<>();

        int kind() { return 0; }
        int grows() { return 2; }
        int holds() { return size / 2; }
        int back() { return 3; }

        int others() {
            int n = 0;
            for (Name other : city.names) {
                if (other != this && other.on == on) { n++; }
            }
            return n;
        }

        int sprays(int x) { trace.add(10); return x * 7 + number; }
        int drips(int x) { trace.add(11); return sprays(x) - hand * 5; }

        int parts(int x) {
            trace.add(12);
            if (hand == number) { throw new Refused(-15); }
            return x / (hand - number);
        }

        int fades(int x) { trace.add(13); return drips(x) ^ 190; }
    }

    static class Fresh extends Name {
        @Override int kind() { return 1; }
        @Override int grows() { return super.grows() + (city.ground[on] == 1 ? city.laws[1] : 0); }
        @Override int holds() { return super.holds() - city.laws[1]; }
        @Override int back() { return super.back() - 2; }
        @Override int drips(int x) { trace.add(20); return super.drips(x) + 9; }
    }

    static class Covered extends Name {
        @Override int kind() { return 2; }
        @Override int grows() { return super.grows() - others(); }
        @Override int holds() { return super.holds() + 5; }
        @Override int back() { return super.back() + hand; }
        @Override int sprays(int x) { trace.add(30); return 0 - super.sprays(x); }
        @Override int fades(int x) { trace.add(31); return super.fades(x) - parts(number); }
    }

    static final class Tempted extends Fresh {
        @Override int kind() { return 3; }
        @Override int grows() { return super.grows() * 2; }
        @Override int holds() { return super.holds() + hand; }
        @Override int parts(int x) { trace.add(50); return super.parts(x - number) * 4; }
        @Override int sprays(int x) { trace.add(51); return super.sprays(x) - hand; }
    }

    static final class Grown extends Covered {
        @Override int kind() { return 4; }
        @Override int grows() { return super.grows() + 3; }
        @Override int holds() { return super.holds() + others(); }
        @Override int back() { return super.back() / 2; }
        @Override int sprays(int x) { trace.add(40); return super.sprays(x) ^ 12; }
        @Override int drips(int x) { trace.add(41); return super.drips(x) + sprays(hand); }
    }

    static final class Kept extends Name {
        @Override int kind() { return 5; }
        @Override int grows() { return 0; }
        @Override int holds() { return 99; }
        @Override int back() { return super.back() * 3; }
        @Override int fades(int x) { trace.add(60); return 3 - super.fades(x); }
        @Override int parts(int x) { trace.add(61); return super.parts(x) ^ sprays(number); }
    }

    static Name make(int kind) {
        return switch (kind) {
            case 0 -> new Name();
            case 1 -> new Fresh();
            case 2 -> new Covered();
            case 3 -> new Tempted();
            case 4 -> new Grown();
            default -> new Kept();
        };
    }

    static final class City {
        int[] laws = {1, 2, 30, 20};
        int[] ground = new int[10];
        int[] seen = {3, 3, 3, 3, 3, 3, 3, 3, 3, 3};
        List<Name> names = new ArrayList<>();
        int night = 0;
        long glances = 0;
        long unheld = 0;
        int z = 1;

        City copy() {
            City c = new City();
            c.laws = laws.clone();
            c.ground = ground.clone();
            c.seen = seen.clone();
            for (Name n : names) { c.add(n.kind(), n.hand, n.size, n.on).away = n.away; }
            c.night = night;
            c.glances = glances;
            c.z = z;
            return c;
        }

        Name add(int kind, int hand, int size, int on) {
            Name n = make(kind);
            n.city = this;
            n.number = names.size();
            n.hand = hand;
            n.size = size;
            n.on = on;
            names.add(n);
            return n;
        }

        void become(int name, int kind, int hand) {
            Name old = names.get(name);
            Name n = make(kind);
            n.city = this;
            n.number = name;
            n.hand = hand;
            n.size = old.size;
            n.on = old.on;
            n.away = old.away;
            names.set(name, n);
        }

        int looks(int wall) {
            int sum = 0;
            for (Name n : names) { if (n.on == wall) { sum += n.size; } }
            return sum * seen[wall];
        }

        int looks() {
            int sum = 0;
            for (int w = 0; w < 10; w++) { sum += looks(w); }
            return sum;
        }

        int clean(int wall) {
            List<Name> going = new ArrayList<>();
            for (Name n : names) {
                if (n.on == wall && (ground[wall] == 2 ? n.kind() != 5 : n.holds() <= laws[2])) { going.add(n); }
            }
            for (Name n : going) { n.on = GONE; n.away = 0; }
            if (ground[wall] != 2) { ground[wall] = 1; }
            return going.size();
        }

        void night() {
            for (Name n : names) {
                if (n.on != GONE) { continue; }
                n.away = Math.min(99, n.away + 1);
                if (n.away >= n.back()) { n.on = (n.hand + night) % 10; n.away = 0; n.size = 5; }
            }
            int[] more = new int[names.size()];
            for (Name n : names) { more[n.number] = n.on == GONE ? 0 : n.grows(); }
            for (Name n : names) {
                if (n.on != GONE) { n.size = Math.max(0, Math.min(99, n.size + more[n.number])); }
            }
            for (int b = 0; b < laws[0]; b++) {
                int best = 0;
                for (int w = 1; w < 10; w++) { if (looks(w) > looks(best)) { best = w; } }
                if (looks(best) > 0) { clean(best); }
            }
            night++;
            unheld += looks();
            glances = Math.min(99999, glances + looks());
        }

        int draw() { z = z * 1103515245 + 12345; return z >>> 16; }

        void nightByDraws() {
            if (!names.isEmpty()) {
                Name n = names.get(draw() % names.size());
                if (draw() % 100 < laws[3]) { n.size /= 2; }
            }
            night();
        }
    }

    City city = new City();
    City keptCity = null;
    List<Integer> tape = new ArrayList<>();
    List<int[]> rows = new ArrayList<>();
    Object[] sheets = new Object[4];
    Object[] shelves = new Object[4];
    List<Integer> traced = new ArrayList<>();

    private static void need(boolean holds, int answer) {
        if (!holds) { throw new Refused(answer); }
    }

    private static boolean in(long v, long least, long most) {
        return v >= least && v <= most;
    }

    private Name one(int name) {
        need(in(name, 0, city.names.size() - 1), -1);
        return city.names.get(name);
    }

    private long viewOf(int n, Consumer<City> change) {
        City c = city.copy();
        change.accept(c);
        for (int i = 0; i < n; i++) { c.night(); }
        return c.unheld;
    }

    int feed(long eight, int n) {
        need(in(n, 1, 8), -1);
        need(tape.size() + n <= 200, -2);
        for (int i = 0; i < n; i++) { tape.add((int) (eight >> 8 * i & 255)); }
        return tape.size();
    }

    int town() {
        StringBuilder text = new StringBuilder();
        for (int b : tape) { text.append((char) b); }
        tape.clear();
        City c = new City();
        c.z = city.z;
        int fault = new ModelText(text.toString(), c).fault();
        need(fault < 0, -100 - fault);
        city = c;
        rows.clear();
        return c.names.size();
    }

    int set(int law, int v) {
        need(in(law, 0, 3) && in(v, 0, law < 2 ? 9 : 99), -1);
        int was = city.laws[law];
        city.laws[law] = v;
        return was;
    }

    int lawOf(int law) {
        need(in(law, 0, 3), -1);
        return city.laws[law];
    }

    int name(int kind, int hand, int size, int wall) {
        need(in(kind, 0, 5) && in(hand, 0, 9) && in(size, 0, 99) && in(wall, 0, 9), -1);
        need(city.names.size() < 8, -2);
        return city.add(kind, hand, size, wall).number;
    }

    int of(int name, int what) {
        Name n = one(name);
        need(in(what, 0, 4), -1);
        return new int[] {n.kind(), n.hand, n.size, n.on, n.away}[what];
    }

    int does(int name, int what) {
        Name n = one(name);
        need(in(what, 0, 2), -1);
        need(what == 2 || n.on != GONE, -3);
        return 1000 + (what == 0 ? n.grows() : what == 1 ? n.holds() : n.back());
    }

    int mind(int name, int kind, int hand) {
        int was = one(name).kind();
        need(in(kind, 0, 5) && in(hand, 0, 9), -1);
        city.become(name, kind, hand);
        return was;
    }

    int paint(int name, int v) {
        int was = one(name).size;
        need(in(v, 0, 99), -1);
        one(name).size = v;
        return was;
    }

    int move(int name, int wall) {
        int was = one(name).on;
        need(in(wall, 0, 10), -1);
        one(name).on = wall;
        if (wall < 10) { one(name).away = 0; }
        return was;
    }

    int wall(int wall, int what, int v) {
        need(in(wall, 0, 9) && in(what, 0, 1) && in(v, 0, what == 0 ? 2 : 9), -1);
        int[] of = what == 0 ? city.ground : city.seen;
        int was = of[wall];
        of[wall] = v;
        return was;
    }

    private int on(int wall) {
        int set = 0;
        for (Name n : city.names) { if (n.on == wall) { set += 1 << n.number; } }
        return set;
    }

    int wallOf(int wall, int what) {
        need(in(wall, 0, 9) && in(what, 0, 3), -1);
        return new int[] {city.ground[wall], city.seen[wall], city.looks(wall), on(wall)}[what];
    }

    int clean(int wall) {
        need(in(wall, 0, 9), -1);
        return city.clean(wall);
    }

    int nights(int n) {
        need(in(n, 1, 60), -1);
        for (int i = 0; i < n; i++) { city.night(); }
        return city.looks();
    }

    int seed(int v) {
        int was = city.z;
        city.z = v;
        return was;
    }

    int night() {
        city.nightByDraws();
        return city.looks();
    }

    int shy(int n) {
        need(in(n, 1, 30), -1);
        int count = 0;
        int z = city.z;
        for (int i = 0; i < n; i++) {
            City c = city.copy();
            c.z = z;
            c.nightByDraws();
            z = c.z;
            if (c.unheld < viewOf(1, x -> { })) { count++; }
        }
        return count;
    }

    int state(int what) {
        need(in(what, 0, 5), -1);
        int used = 0;
        int grey = 0;
        for (int w = 0; w < 10; w++) {
            if (on(w) != 0) { used += 1 << w; }
            if (city.ground[w] == 1) { grey += 1 << w; }
        }
        return new int[] {city.night, (int) city.glances, city.looks(), on(GONE), used, grey}[what];
    }

    int view(int n) {
        need(in(n, 0, 60), -1);
        return (int) viewOf(n, c -> { });
    }

    private int until(java.util.function.Predicate<City> holds) {
        City c = city.copy();
        int n = 0;
        while (!holds.test(c)) {
            need(n < 60, -3);
            c.night();
            n++;
        }
        return n;
    }

    int stays(int name) {
        one(name);
        return until(c -> c.names.get(name).on == GONE);
    }

    int comes(int name) {
        one(name);
        return until(c -> c.names.get(name).on != GONE);
    }

    int clear() {
        return until(c -> c.looks() == 0);
    }

    private static int least(long[] views) {
        int best = 0;
        for (int i = 1; i < views.length; i++) { if (views[i] < views[best]) { best = i; } }
        return best;
    }

    int firstFor(int n) {
        need(in(n, 1, 30), -1);
        long[] views = new long[10];
        for (int w = 0; w < 10; w++) { int wall = w; views[w] = viewOf(n, c -> c.clean(wall)); }
        return least(views);
    }

    int groundFor(int wall, int n) {
        need(in(wall, 0, 9) && in(n, 1, 30), -1);
        long[] views = new long[3];
        for (int g = 0; g < 3; g++) { int ground = g; views[g] = viewOf(n, c -> c.ground[wall] = ground); }
        return least(views);
    }

    int kindFor(int name, int n) {
        one(name);
        need(in(n, 1, 30), -1);
        long[] views = new long[6];
        for (int k = 0; k < 6; k++) { int kind = k; views[k] = viewOf(n, c -> c.become(name, kind, c.names.get(name).hand)); }
        return least(views);
    }

    int bucketsFor(int n, int v) {
        need(in(n, 1, 30) && in(v, 0, 99999), -1);
        for (int b = 0; b <= 9; b++) {
            int buckets = b;
            if (viewOf(n, c -> c.laws[0] = buckets) <= v) { return b; }
        }
        return -3;
    }

    int waxedFor(int n, int v) {
        need(in(n, 1, 10) && in(v, 0, 99999), -1);
        int best = -3;
        for (int s = 0; s < 1024; s++) {
            int set = s;
            if (best >= 0 && Integer.bitCount(set) >= Integer.bitCount(best)) { continue; }
            long view = viewOf(n, c -> {
                for (int w = 0; w < 10; w++) { if ((set & 1 << w) != 0) { c.ground[w] = 2; } }
            });
            if (view <= v) { best = set; }
        }
        return best;
    }

    int hands(int what, int name) {
        need(in(what, 0, 1), -1);
        if (what == 1) { one(name); }
        Set<Integer> all = new HashSet<>();
        int same = 0;
        for (Name n : city.names) {
            all.add(n.hand);
            if (what == 1 && n.hand == one(name).hand) { same += 1 << n.number; }
        }
        return what == 0 ? all.size() : same;
    }

    private static int lengthOf(Object row) {
        return java.lang.reflect.Array.getLength(row);
    }

    private static long at(Object row, int i) {
        return java.lang.reflect.Array.getLong(row, i);
    }

    private static int sortOf(Object row) {
        return row instanceof byte[] ? 0 : row instanceof short[] ? 1 : row instanceof int[] ? 2 : 3;
    }

    private Object rowOf(int sheet) {
        need(sheets[sheet] != null, -11);
        return sheets[sheet];
    }

    int fits(int sheet, int name, int what) {
        need(in(sheet, 0, 3), -1);
        one(name);
        need(in(what, 0, 1), -1);
        Object row = rowOf(sheet);
        List<Integer> fitting = new ArrayList<>();
        for (int hand = 0; hand < 10; hand++) {
            City c = city.copy();
            c.names.get(name).hand = hand;
            boolean fits = true;
            for (int i = 0; i < lengthOf(row); i++) {
                c.night();
                fits &= at(row, i) == -1 || at(row, i) == c.names.get(name).on;
            }
            if (fits) { fitting.add(hand); }
        }
        need(what == 0 || !fitting.isEmpty(), -3);
        return what == 0 ? fitting.size() : fitting.get(0);
    }

    private static long part(java.math.BigInteger above, java.math.BigInteger below, int part) {
        java.math.BigInteger by = above.gcd(below);
        return (part == 0 ? above : below).divide(by).longValueExact();
    }

    long odds(int n, int k, int part) {
        need(in(n, 0, 8) && in(k, 0, n) && in(part, 0, 1), -1);
        java.math.BigInteger above = java.math.BigInteger.ZERO;
        for (int nights = 0; nights < 1 << n; nights++) {
            if (Integer.bitCount(nights) != k) { continue; }
            above = above.add(java.math.BigInteger.valueOf(city.laws[3]).pow(k)
                .multiply(java.math.BigInteger.valueOf(100 - city.laws[3]).pow(n - k)));
        }
        return part(above, java.math.BigInteger.valueOf(100).pow(n), part);
    }

    long hope(int n, int part) {
        need(in(n, 0, 99) && in(part, 0, 1), -1);
        return part(java.math.BigInteger.valueOf((long) n * city.laws[3]), java.math.BigInteger.valueOf(100), part);
    }

    private List<int[]> rowsOf(int name, int n) {
        List<int[]> all = new ArrayList<>();
        City c = city.copy();
        for (int i = 0; i < n; i++) {
            c.night();
            all.add(new int[] {c.names.get(name).on, c.names.get(name).size, c.looks()});
        }
        return all;
    }

    int prove(int name, int n) {
        one(name);
        need(in(n, 1, 10), -1);
        rows = rowsOf(name, n);
        return n;
    }

    int row(int i, int what) {
        need(in(i, 0, rows.size() - 1) && in(what, 0, 2), -9);
        return rows.get(i)[what];
    }

    int alterRow(int i, int what, int v) {
        int was = row(i, what);
        rows.get(i)[what] = v;
        return was;
    }

    int judge(int name) {
        one(name);
        List<int[]> right = rowsOf(name, rows.size());
        for (int i = 0; i < rows.size(); i++) {
            if (!Arrays.equals(rows.get(i), right.get(i))) { return i + 1; }
        }
        return 0;
    }

    int minds(int sheet, int i, int name, int n) {
        need(in(sheet, 0, 3), -1);
        one(name);
        need(in(n, 0, 8) && name + n <= city.names.size(), -1);
        Object row = rowOf(sheet);
        need(row instanceof byte[], -13);
        need(in(i, 0, lengthOf(row)) && (long) i + n <= lengthOf(row), -12);
        for (int k = 0; k < n; k++) { one(name + k).size = (int) Math.max(0, Math.min(99, at(row, i + k))); }
        return n;
    }

    int sheet(int sheet, int sort, int n) {
        need(in(sheet, 0, 3) && in(sort, -1, 3), -1);
        if (sort == -1) { sheets[sheet] = null; return 1; }
        need(n <= 40, -1);
        need(n >= 0, -14);
        sheets[sheet] = switch (sort) {
            case 0 -> new byte[n];
            case 1 -> new short[n];
            case 2 -> new int[n];
            default -> new long[n];
        };
        return 1;
    }

    int put(int sheet, int i, int v) {
        need(in(sheet, 0, 3), -1);
        Object row = rowOf(sheet);
        need(in(i, 0, lengthOf(row) - 1), -12);
        switch (sortOf(row)) {
            case 0 -> ((byte[]) row)[i] = (byte) v;
            case 1 -> ((short[]) row)[i] = (short) v;
            case 2 -> ((int[]) row)[i] = v;
            default -> ((long[]) row)[i] = v;
        }
        return 1;
    }

    int item(int sheet, int sort, int i) {
        need(in(sheet, 0, 3) && in(sort, 0, 3), -1);
        Object row = rowOf(sheet);
        need(sortOf(row) == sort, -13);
        need(in(i, 0, lengthOf(row) - 1), -12);
        return (int) at(row, i);
    }

    int shelf(int shelf, int what, int n) {
        need(in(shelf, 0, 3) && in(what, 0, 2), -1);
        if (what == 0) { one(n); }
        need(what != 1 || in(n, 0, 3), -1);
        shelves[shelf] = what == 0 ? Integer.valueOf(n) : what == 1 ? sheets[n] : null;
        return 1;
    }

    private Object held(int shelf) {
        Object held = shelves[shelf];
        if (held instanceof Integer) {
            int number = (Integer) held;
            return number < city.names.size() ? city.names.get(number) : null;
        }
        return held;
    }

    int taken(int shelf, int as) {
        need(in(shelf, 0, 3) && (in(as, 0, 5) || in(as, 10, 13)), -1);
        Object held = held(shelf);
        need(held != null, -11);
        if (held instanceof Name) {
            need(as < 6 && make(as).getClass().isInstance(held), -13);
            return ((Name) held).number;
        }
        need(as >= 10 && sortOf(held) == as - 10, -13);
        return lengthOf(held);
    }

    int act(int shelf, int act, int x) {
        traced = new ArrayList<>();
        if (!in(shelf, 0, 3) || !in(act, 0, 3) || !(held(shelf) instanceof Name)) { return 0; }
        Name n = (Name) held(shelf);
        n.trace = traced;
        return switch (act) {
            case 0 -> n.sprays(x);
            case 1 -> n.drips(x);
            case 2 -> n.parts(x);
            default -> n.fades(x);
        };
    }

    int trace(int i) {
        need(in(i, 0, Math.min(30, traced.size()) - 1), -3);
        return traced.get(i);
    }

    int many(int what) {
        need(in(what, 0, 6), -1);
        int looked = 0;
        for (int w = 0; w < 10; w++) { if (city.looks(w) > 0) { looked++; } }
        return new int[] {city.names.size(), Integer.bitCount(on(GONE)), looked, hands(0, 0), rows.size(),
            tape.size(), Math.min(30, traced.size())}[what];
    }

    int keep() {
        keptCity = city.copy();
        return 1;
    }

    int again() {
        need(keptCity != null, -3);
        city = keptCity.copy();
        return city.names.size();
    }
}
