import java.util.ArrayList;
import java.util.List;
import java.util.Random;

/** Makes texts of days by chance, and spoils some. */
final class TextMaker {
    private static final String[] WORDS = {"law", "kitchen", "flood", "dish", "diet", "house", "car", "call",
        "helper", "dog", "afraid", "hot", "by", "at", "adds", "of", "costs", "bars", "eats", "doors", "tea",
        "chance", "need", "from", "starts", "holds", "cools", "takes", "days", "most", "ka", "da", "ha", "ca",
        "eightlet", "ninelette"};
    private final Random random;

    TextMaker(Random random) {
        this.random = random;
    }

    private int from(int least, int most) {
        int kind = random.nextInt(8);
        return kind == 0 ? least : kind == 1 ? most : least + random.nextInt(most - least + 1);
    }

    private String letters(int most) {
        StringBuilder letters = new StringBuilder();
        for (int i = 1 + random.nextInt(most); i > 0; i--) {
            letters.append((char) ('a' + random.nextInt(random.nextInt(6) == 0 ? 26 : 6)));
        }
        return letters.toString();
    }

    /** Names by their sort's first letter and a row's letter, so that none is told twice. */
    private static String name(String sort, int row) {
        return "" + sort + (char) ('a' + row);
    }

    String day() {
        List<String> lines = new ArrayList<>();
        boolean tight = random.nextBoolean();
        int kitchens = 1 + random.nextInt(3);
        int diets = 1 + random.nextInt(4);
        lines.add("law hot " + from(40, tight ? 60 : 90) + " by " + from(600, 900));
        for (int i = 0; i < kitchens; i++) {
            lines.add("kitchen " + name("k", i) + " at " + from(0, 99) + " hot " + from(60, 99));
        }
        for (int i = random.nextInt(4); i > 0; i--) {
            lines.add("flood " + from(0, 98) + " adds " + from(1, tight ? 10 : 60));
        }
        for (int i = 0, count = random.nextInt(7); i < count; i++) {
            lines.add("dish " + name("d", i) + " of " + letters(3) + " costs " + from(1, tight ? 4 : 99));
        }
        for (int i = 0; i < diets; i++) {
            lines.add("diet " + name("e", i) + " bars " + letters(2));
        }
        for (int i = 0, count = 1 + random.nextInt(6); i < count; i++) {
            lines.add("house " + name("h", i) + " at " + from(0, tight ? 20 : 99) + " eats "
                    + name("e", random.nextInt(diets)) + " doors " + from(0, tight ? 3 : 30) + " tea " + from(0, 60)
                    + " chance " + from(0, 100) + " need " + from(1, tight ? 3 : 9)
                    + (random.nextBoolean() ? " dog" : ""));
        }
        for (int i = 0, count = 1 + random.nextInt(3); i < count; i++) {
            lines.add("car " + name("c", i) + " from " + name("k", random.nextInt(kitchens)) + " starts "
                    + (tight ? from(500, 650) : from(500, 800)) + " holds " + from(1, 6) + " cools "
                    + (tight ? from(0, 8) : from(0, 50)) + (random.nextBoolean() ? " afraid" : ""));
        }
        for (int i = 0, count = random.nextInt(6); i < count; i++) {
            lines.add("call " + name("l", i) + " takes " + (tight ? 10 * from(1, 3) : from(1, 60)) + " chance "
                    + (tight ? 10 * from(0, 3) : from(0, 100)));
        }
        for (int i = 0, count = random.nextInt(6); i < count; i++) {
            lines.add("helper " + name("p", i) + " days " + days() + " most " + from(1, 7));
        }
        return join(lines);
    }

    private String days() {
        StringBuilder days = new StringBuilder();
        int bits = 0;
        for (int i = 1 + random.nextInt(7); i > 0; i--) {
            int day = random.nextInt(7);
            if ((bits >> day & 1) == 0) {
                days.append(bits == 0 ? "" : ",").append(day);
                bits |= 1 << day;
            }
        }
        return days.toString();
    }

    private String join(List<String> lines) {
        StringBuilder text = new StringBuilder();
        boolean wide = random.nextInt(4) == 0;
        for (String line : lines) {
            text.append(text.length() == 0 ? "" : ";").append(line);
            if (wide && random.nextInt(3) == 0) {
                text.append("  ");
            }
        }
        return text.toString();
    }

    String spoilt(String text) {
        String spoilt = text;
        for (int i = 1 + random.nextInt(2); i > 0; i--) {
            spoilt = spoiltOnce(spoilt);
        }
        return spoilt;
    }

    private String spoiltOnce(String text) {
        int at = random.nextInt(text.length() + 1);
        int to = Math.min(text.length(), at + 1);
        String signs = "abz019;, !\n\u00e9";
        switch (random.nextInt(8)) {
            case 0:
                return text.substring(0, at) + text.substring(to);
            case 1:
                return text.substring(0, at) + signs.charAt(random.nextInt(signs.length())) + text.substring(at);
            case 2:
                return text.substring(0, at) + signs.charAt(random.nextInt(signs.length())) + text.substring(to);
            case 3:
                return text.substring(0, at);
            case 4:
                return otherLine(text);
            case 5:
                return otherNumber(text);
            default:
                return otherToken(text);
        }
    }

    private String otherLine(String text) {
        List<String> lines = new ArrayList<>(List.of(text.split(";")));
        if (lines.isEmpty()) {
            return text;
        }
        String line = lines.get(random.nextInt(lines.size()));
        if (random.nextBoolean()) {
            lines.remove(line);
        } else if (random.nextBoolean()) {
            lines.add(random.nextInt(lines.size() + 1), line);
        } else {
            lines.add(line.replaceFirst("^([a-z]+) [a-z]+", "$1 zz" + (char) ('a' + random.nextInt(3))));
        }
        return String.join(";", lines);
    }

    private String otherNumber(String text) {
        List<PlainModel.Token> wholes = new ArrayList<>(PlainModel.tokens(text));
        wholes.removeIf(token -> !token.isWhole());
        if (wholes.isEmpty()) {
            return text;
        }
        PlainModel.Token token = wholes.get(random.nextInt(wholes.size()));
        int[] edges = {0, 1, 6, 7, 8, 9, 10, 30, 31, 39, 40, 50, 51, 59, 60, 61, 90, 91, 98, 99, 100, 101, 499, 500,
            599, 600, 800, 801, 900, 901, 999, 1000};
        return text.substring(0, token.place()) + edges[random.nextInt(edges.length)]
                + text.substring(token.place() + token.sign().length());
    }

    private String otherToken(String text) {
        List<PlainModel.Token> tokens = PlainModel.tokens(text);
        if (tokens.isEmpty()) {
            return text;
        }
        PlainModel.Token token = tokens.get(random.nextInt(tokens.size()));
        String other = random.nextBoolean() ? WORDS[random.nextInt(WORDS.length)]
                : tokens.get(random.nextInt(tokens.size())).sign();
        String behind = text.substring(token.place() + token.sign().length());
        return text.substring(0, token.place()) + other + (random.nextInt(4) == 0 ? " " : "") + behind;
    }
}
