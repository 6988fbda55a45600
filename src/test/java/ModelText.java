import java.util.ArrayList;
import java.util.List;
import java.util.regex.Matcher;
import java.util.regex.Pattern;

/** The text of a town, cut into tokens first and then matched one by one. */
final class ModelText {
    private static final List<String> KINDS = List.of("name", "fresh", "covered", "tempted", "grown", "kept");
    private static final int[] KIND_NUMBERS = {0, 1, 2, 3, 4, 5};
    private static final List<String> GROUNDS = List.of("old", "grey", "wax");
    private static final List<String> LAWS = List.of("buckets", "lure", "scrub", "fear");

    private static final class Fault extends RuntimeException {
        private static final long serialVersionUID = 1;
    }

    private final List<String> tokens = new ArrayList<>();
    private final List<Integer> places = new ArrayList<>();
    private final Model.City city;
    private int next = 0;

    ModelText(String text, Model.City city) {
        this.city = city;
        Matcher m = Pattern.compile("[a-z]+|[0-9]+|[^ ]", Pattern.DOTALL).matcher(text);
        while (m.find()) {
            tokens.add(m.group());
            places.add(m.start());
        }
        tokens.add("");
        places.add(text.length());
    }

    int fault() {
        try {
            while (!token().isEmpty()) { one(); }
            return -1;
        } catch (Fault f) {
            return places.get(next);
        }
    }

    private String token() {
        return tokens.get(next);
    }

    private int oneOf(List<String> words) {
        if (!words.contains(token())) { throw new Fault(); }
        return words.indexOf(tokens.get(next++));
    }

    private int number(int most) {
        if (!token().matches("[0-9]{1,3}") || Integer.parseInt(token()) > most) { throw new Fault(); }
        return Integer.parseInt(tokens.get(next++));
    }

    private int option(String word, int most, int without) {
        if (!token().equals(word)) { return without; }
        next++;
        return number(most);
    }

    private void one() {
        if (KINDS.contains(token())) {
            if (city.names.size() == 8) { throw new Fault(); }
            int kind = KIND_NUMBERS[oneOf(KINDS)];
            oneOf(List.of("on"));
            int wall = number(9);
            int hand = option("hand", 9, 0);
            city.add(kind, hand, option("size", 99, 5), wall);
        } else if (token().equals("wall")) {
            next++;
            int wall = number(9);
            city.ground[wall] = oneOf(GROUNDS);
            city.seen[wall] = option("seen", 9, city.seen[wall]);
        } else {
            int law = oneOf(LAWS);
            city.laws[law] = number(law < 2 ? 9 : 99);
        }
        oneOf(List.of(";"));
    }
}
