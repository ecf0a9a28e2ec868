import java.util.ArrayList;
import java.util.Collections;
import java.util.List;
import java.util.Random;

/** Random texts of a BEACH, right ones and spoilt ones. */
final class Texts {
    private static final String[] NAMES = {"a", "b", "cc", "plain", "red", "ann", "zebra", "abcdefgh", "x", "nota"};
    private static final String[] UNITS = {"stripes", "likes", "alone", "sat", "sand", "hour"};
    private static final String[] SIGNS = {"+", "-", "*", "/", "%", "<", ">", "=", " and ", " or "};
    private static final String[] PIECES = {";", "(", ")", "not ", "or", "and", "chair ", "sitter ", "had ", "gust ",
        "draw ", "shut", "12345", "9x", "abcdefghi", "A", "#", "10", "100", "1000", "4", "<", "-", "stripes", "\t",
        "1+", "(((((((", "not not not ", "hour", "a", " "};

    private final Random random;

    Texts(Random random) {
        this.random = random;
    }

    String next(boolean spoilt) {
        String text = lines();
        if (spoilt) {
            for (int i = random.nextInt(2); i >= 0; i--) {
                text = spoil(text);
            }
        }
        return text.length() > 1600 ? text.substring(0, 1600) : text;
    }

    private String lines() {
        List<String> lines = new ArrayList<>();
        int most = random.nextInt(40) == 0 ? 7 : 6;
        int chairs = Math.max(random.nextInt(most), random.nextInt(most));
        int sitters = Math.max(random.nextInt(most), random.nextInt(most));
        List<String> names = new ArrayList<>(List.of(NAMES));
        Collections.shuffle(names, random);
        for (int i = 0; i < chairs; i++) {
            String shut = random.nextInt(3) == 0 ? " shut " + joint() + joint() + joint() : "";
            lines.add("chair " + names.get(i) + " stripes " + random.nextInt(10) + shut + ";");
        }
        Collections.shuffle(names, random);
        for (int i = 0; i < sitters; i++) {
            lines.add("sitter " + names.get(i) + " purse " + random.nextInt(100) + " likes " + random.nextInt(10) + ";");
        }
        if (random.nextInt(4) != 0) {
            lines.add("had " + formula(random.nextInt(4)) + ";");
        }
        if (random.nextInt(2) == 0) {
            lines.add("gust " + random.nextInt(101) + ";");
        }
        if (random.nextInt(2) == 0) {
            lines.add("draw " + random.nextInt(1000) + ";");
        }
        if (random.nextInt(40) == 0) {
            lines.add(lines.isEmpty() ? "gust 5;" : lines.get(random.nextInt(lines.size())));
        }
        Collections.shuffle(lines, random);
        return String.join(random.nextBoolean() ? "" : random.nextBoolean() ? "\n" : "  ", lines);
    }

    private String joint() {
        return random.nextInt(4) + " ";
    }

    private String formula(int depth) {
        StringBuilder text = new StringBuilder();
        boolean compared = false;
        int units = 1 + random.nextInt(random.nextInt(30) == 0 ? 20 : 4);
        text.append(start()).append(unit(depth));
        for (int i = 1; i < units; i++) {
            String sign = SIGNS[random.nextInt(SIGNS.length)];
            boolean compares = sign.equals("<") || sign.equals(">") || sign.equals("=");
            if (compares && compared) {
                sign = "*";
            } else if (compares) {
                compared = true;
            }
            text.append(sign);
            if (sign.startsWith(" ")) {
                compared = false;
                text.append(start());
            }
            text.append(unit(depth));
        }
        return text.toString();
    }

    private String start() {
        return random.nextInt(6) == 0 ? "not " : "";
    }

    private String unit(int depth) {
        if (depth > 0 && random.nextInt(3) == 0) {
            return "(" + formula(depth - 1) + ")";
        }
        if (random.nextInt(3) == 0) {
            return "" + random.nextInt(random.nextInt(10) == 0 ? 10000 : 20);
        }
        return UNITS[random.nextInt(UNITS.length)];
    }

    private String spoil(String text) {
        int from = random.nextInt(text.length() + 1);
        int to = Math.min(text.length(), from + random.nextInt(4));
        String piece = PIECES[random.nextInt(PIECES.length)];
        switch (random.nextInt(4)) {
            case 0:
                return text.substring(0, from) + piece + text.substring(from);
            case 1:
                return text.substring(0, from) + text.substring(to);
            case 2:
                return text.substring(0, from);
            default:
                return text.substring(0, from) + piece + text.substring(to);
        }
    }
}
