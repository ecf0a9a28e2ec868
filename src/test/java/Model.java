import java.util.ArrayDeque;
import java.util.ArrayList;
import java.util.Arrays;
import java.util.HashMap;
import java.util.HashSet;
import java.util.List;
import java.util.Map;
import java.util.Set;
import java.util.function.ToIntFunction;
import java.util.regex.Matcher;
import java.util.regex.Pattern;

/**
 * The document once more, written as plainly as can be with the whole Java library and without a look
 * at room or speed, to hold the class against it. Calls are told by name: call("sit", 0, 1).
 */
final class Model {
    /** What is given to the formula. */
    record Given(int stripes, int likes, int alone, int sat, int sand, int hour) {
    }

    static final class Fault extends RuntimeException {
        final int what;
        final int place;

        Fault(int what, int place) {
            this.what = what;
            this.place = place;
        }
    }

    record Token(String text, int place) {
    }

    static final class State {
        int[][] joints;
        int[] sand;
        int[] place;
        int[] sat;
        int[] purse;
        int[] had;
        int hour;
        int seed;

        State copy() {
            State s = new State();
            s.joints = new int[joints.length][];
            for (int i = 0; i < joints.length; i++) {
                s.joints[i] = joints[i].clone();
            }
            s.sand = sand.clone();
            s.place = place.clone();
            s.sat = sat.clone();
            s.purse = purse.clone();
            s.had = had.clone();
            s.hour = hour;
            s.seed = seed;
            return s;
        }
    }

    static final class Beach {
        List<String> chairNames = new ArrayList<>();
        List<Integer> stripes = new ArrayList<>();
        List<int[]> joints = new ArrayList<>();
        List<String> sitterNames = new ArrayList<>();
        List<Integer> purse = new ArrayList<>();
        List<Integer> likes = new ArrayList<>();
        int gust = 0;
        int draw = 0;
        int units = 0;
        ToIntFunction<Given> formula = g -> 5 + g.alone() * 2 - g.stripes() + g.likes();
        Set<String> once = new HashSet<>();
    }

    record Seen(int chair, int much, boolean is, int told, int[] untold) {
    }

    private static final Set<String> OWN = Set.of("chair", "stripes", "shut", "sitter", "purse", "likes", "had",
            "gust", "draw", "or", "and", "not", "alone", "sat", "sand", "hour");

    private final StringBuilder tape = new StringBuilder();
    private Beach beach = new Beach();
    private State now;
    private final ArrayDeque<State> undos = new ArrayDeque<>();
    private final ArrayDeque<State> redos = new ArrayDeque<>();
    private final Map<Integer, State> boxes = new HashMap<>();
    private List<Integer> lying = new ArrayList<>();
    private List<Seen> seen = new ArrayList<>();
    private int time = 0;
    private int fault = 0;
    private int place = -1;

    Model() {
        begin();
    }

    private void begin() {
        now = new State();
        now.joints = new int[chairs()][];
        for (int c = 0; c < chairs(); c++) {
            now.joints[c] = beach.joints.get(c).clone();
        }
        now.sand = new int[chairs()];
        now.place = new int[sitters()];
        Arrays.fill(now.place, -1);
        now.sat = new int[sitters()];
        now.purse = beach.purse.stream().mapToInt(i -> i).toArray();
        now.had = new int[sitters()];
        now.seed = beach.draw;
        undos.clear();
        redos.clear();
        boxes.clear();
        lying.clear();
        seen.clear();
    }

    private int chairs() {
        return beach.stripes.size();
    }

    private int sitters() {
        return beach.likes.size();
    }

    // ---- the text ----

    private List<Token> tokens;
    private int at;
    private Beach reading;
    private String text;

    private static final Pattern TOKEN = Pattern.compile("[a-z]+|[0-9]+|[;()<>=+\\-*/%]");

    private void tokenise() {
        tokens = new ArrayList<>();
        int i = 0;
        while (i < text.length()) {
            char c = text.charAt(i);
            if (c == ' ' || c == '\n') {
                i++;
                continue;
            }
            Matcher m = TOKEN.matcher(text).region(i, text.length());
            if (!m.lookingAt()) {
                tokens.add(new Token("?", i));
                return;
            }
            String t = m.group();
            i = m.end();
            boolean letterBehind = i < text.length() && text.charAt(i) >= 'a' && text.charAt(i) <= 'z';
            boolean bad = Character.isDigit(t.charAt(0)) ? t.length() > 4 || letterBehind
                    : t.charAt(0) >= 'a' && t.length() > 8;
            tokens.add(new Token(bad ? "?" : t, m.start()));
            if (bad) {
                return;
            }
        }
        tokens.add(new Token("", text.length()));
    }

    private String peek() {
        return tokens.get(at).text();
    }

    private Fault here(int what) {
        Token t = tokens.get(at);
        return new Fault(t.text().equals("?") ? 1 : what, t.place());
    }

    private void word(String due) {
        if (!peek().equals(due)) {
            throw here(2);
        }
        at++;
    }

    private int number(int most) {
        if (!peek().matches("[0-9]+")) {
            throw here(2);
        }
        int n = Integer.parseInt(peek());
        if (n > most) {
            throw here(4);
        }
        at++;
        return n;
    }

    private String name(List<String> told) {
        if (!peek().matches("[a-z]+") || OWN.contains(peek())) {
            throw here(2);
        }
        if (told.contains(peek())) {
            throw here(3);
        }
        return tokens.get(at++).text();
    }

    private void parse() {
        tokenise();
        at = 0;
        reading = new Beach();
        while (!peek().isEmpty()) {
            String first = peek();
            switch (first) {
                case "chair" -> {
                    if (reading.stripes.size() == 5) {
                        throw here(2);
                    }
                    at++;
                    reading.chairNames.add(name(reading.chairNames));
                    word("stripes");
                    reading.stripes.add(number(9));
                    int[] joints = new int[3];
                    if (peek().equals("shut")) {
                        at++;
                        for (int i = 0; i < 3; i++) {
                            joints[i] = number(3);
                        }
                    }
                    reading.joints.add(joints);
                }
                case "sitter" -> {
                    if (reading.likes.size() == 5) {
                        throw here(2);
                    }
                    at++;
                    reading.sitterNames.add(name(reading.sitterNames));
                    word("purse");
                    reading.purse.add(number(99));
                    word("likes");
                    reading.likes.add(number(9));
                }
                case "had", "gust", "draw" -> {
                    if (!reading.once.add(first)) {
                        throw here(2);
                    }
                    at++;
                    if (first.equals("gust")) {
                        reading.gust = number(100);
                    } else if (first.equals("draw")) {
                        reading.draw = number(999);
                    } else {
                        reading.formula = e(0);
                    }
                }
                default -> throw here(2);
            }
            word(";");
        }
    }

    private ToIntFunction<Given> e(int within) {
        ToIntFunction<Given> left = both(within);
        while (peek().equals("or")) {
            at++;
            ToIntFunction<Given> a = left;
            ToIntFunction<Given> b = both(within);
            left = g -> (a.applyAsInt(g) != 0) | (b.applyAsInt(g) != 0) ? 1 : 0;
        }
        return left;
    }

    private ToIntFunction<Given> both(int within) {
        ToIntFunction<Given> left = one(within);
        while (peek().equals("and")) {
            at++;
            ToIntFunction<Given> a = left;
            ToIntFunction<Given> b = one(within);
            left = g -> (a.applyAsInt(g) != 0) & (b.applyAsInt(g) != 0) ? 1 : 0;
        }
        return left;
    }

    private ToIntFunction<Given> one(int within) {
        if (peek().equals("not")) {
            if (within == 7) {
                throw here(2);
            }
            at++;
            ToIntFunction<Given> a = one(within + 1);
            return g -> a.applyAsInt(g) == 0 ? 1 : 0;
        }
        ToIntFunction<Given> a = sum(within);
        String sign = peek();
        if (!sign.equals("<") && !sign.equals(">") && !sign.equals("=")) {
            return a;
        }
        at++;
        ToIntFunction<Given> b = sum(within);
        return g -> {
            int order = Integer.compare(a.applyAsInt(g), b.applyAsInt(g));
            return order == (sign.equals("<") ? -1 : sign.equals(">") ? 1 : 0) ? 1 : 0;
        };
    }

    private ToIntFunction<Given> sum(int within) {
        ToIntFunction<Given> left = term(within);
        while (peek().equals("+") || peek().equals("-")) {
            int by = peek().equals("+") ? 1 : -1;
            at++;
            ToIntFunction<Given> a = left;
            ToIntFunction<Given> b = term(within);
            left = g -> a.applyAsInt(g) + by * b.applyAsInt(g);
        }
        return left;
    }

    private ToIntFunction<Given> term(int within) {
        ToIntFunction<Given> left = unit(within);
        while (peek().equals("*") || peek().equals("/") || peek().equals("%")) {
            String sign = peek();
            at++;
            ToIntFunction<Given> a = left;
            ToIntFunction<Given> b = unit(within);
            left = g -> {
                int x = a.applyAsInt(g);
                int y = b.applyAsInt(g);
                if (sign.equals("*")) {
                    return x * y;
                }
                if (y == 0) {
                    return 0;
                }
                return sign.equals("/") ? (int) ((long) x / y) : (int) ((long) x % y);
            };
        }
        return left;
    }

    private ToIntFunction<Given> unit(int within) {
        String t = peek();
        if (reading.units == 30) {
            throw here(2);
        }
        ToIntFunction<Given> f;
        if (t.equals("(")) {
            if (within == 7) {
                throw here(2);
            }
            at++;
            reading.units++;
            f = e(within + 1);
            word(")");
            return f;
        }
        if (t.matches("[0-9]+")) {
            int n = Integer.parseInt(t);
            f = g -> n;
        } else {
            switch (t) {
                case "stripes" -> f = Given::stripes;
                case "likes" -> f = Given::likes;
                case "alone" -> f = Given::alone;
                case "sat" -> f = Given::sat;
                case "sand" -> f = Given::sand;
                case "hour" -> f = Given::hour;
                default -> throw here(2);
            }
        }
        at++;
        reading.units++;
        return f;
    }

    // ---- what is HAD ----

    private int clamp(int v) {
        return v < 0 ? 0 : v > 99 ? 99 : v;
    }

    private int value(State s, int sitter, int chair, Set<Integer> taken, int sand, int hour) {
        int alone = taken.contains(chair - 1) || taken.contains(chair + 1) ? 0 : 1;
        int sat = s.place[sitter] == chair ? s.sat[sitter] : 0;
        return clamp(beach.formula.applyAsInt(
                new Given(beach.stripes.get(chair), beach.likes.get(sitter), alone, sat, sand, hour)));
    }

    private int value(State s, int sitter, int chair, Set<Integer> taken) {
        return value(s, sitter, chair, taken, s.sand[chair], s.hour);
    }

    private Set<Integer> taken(State s, int but) {
        Set<Integer> t = new HashSet<>();
        for (int i = 0; i < s.place.length; i++) {
            if (i != but && s.place[i] >= 0) {
                t.add(s.place[i]);
            }
        }
        return t;
    }

    private int would(int sitter, int chair) {
        return value(now, sitter, chair, taken(now, sitter));
    }

    private int all(State s) {
        int sum = 0;
        for (int i = 0; i < sitters(); i++) {
            if (s.place[i] >= 0) {
                sum += value(s, i, s.place[i], taken(s, -1));
            }
        }
        return sum;
    }

    private boolean open(State s, int chair) {
        return Arrays.equals(s.joints[chair], new int[3]);
    }

    private boolean free(State s, int chair) {
        return open(s, chair) && !taken(s, -1).contains(chair);
    }

    private int hourOf(State s, boolean gusts) {
        int paid = 0;
        for (int i = 0; i < sitters(); i++) {
            int c = s.place[i];
            if (c < 0) {
                continue;
            }
            int v = value(s, i, c, taken(s, -1));
            if (s.purse[i] >= v) {
                s.purse[i] -= v;
                s.had[i] = Math.min(9999, s.had[i] + v);
                s.sat[i]++;
                s.sand[c] = Math.min(99, s.sand[c] + 1);
                paid += v;
            } else {
                s.place[i] = -1;
                s.sat[i] = 0;
            }
        }
        for (int c = 0; gusts && c < chairs(); c++) {
            if (free(s, c)) {
                s.seed = (s.seed * 137 + 71) % 1000;
                if (s.seed % 100 < beach.gust) {
                    s.joints[c] = new int[] {1, 2, 3};
                }
            }
        }
        s.hour++;
        return paid;
    }

    private static int[] moved(int[] j, int move) {
        int[] k = j.clone();
        switch (move) {
            case 0 -> {
                k[0] += 1;
                k[1] += 1;
            }
            case 1 -> {
                k[1] -= 1;
                k[2] += 1;
            }
            case 2 -> {
                k[2] += 2;
                k[0] -= 1;
            }
            default -> {
                for (int i = 0; i < 3; i++) {
                    k[i]++;
                }
            }
        }
        for (int i = 0; i < 3; i++) {
            k[i] = Math.floorMod(k[i], 4);
        }
        return k;
    }

    private static int number(int[] j) {
        return 16 * j[0] + 4 * j[1] + j[2];
    }

    /** Breadth first with the lesser MOVE first: the first row that opens is the first of the shortest. */
    private static List<Integer> opening(int[] from) {
        ArrayDeque<int[]> states = new ArrayDeque<>();
        ArrayDeque<List<Integer>> rows = new ArrayDeque<>();
        Set<Integer> met = new HashSet<>();
        states.add(from);
        rows.add(List.of());
        met.add(number(from));
        while (true) {
            int[] s = states.poll();
            List<Integer> row = rows.poll();
            if (number(s) == 0) {
                return row;
            }
            for (int m = 0; m < 4; m++) {
                int[] t = moved(s, m);
                if (met.add(number(t))) {
                    List<Integer> longer = new ArrayList<>(row);
                    longer.add(m);
                    states.add(t);
                    rows.add(longer);
                }
            }
        }
    }

    private void act(State before) {
        undos.push(before);
        if (undos.size() > 40) {
            undos.removeLast();
        }
        redos.clear();
    }

    /** All rows of CHAIRS for the SITTERS, the first ones first (none, chairs(), behind all). */
    private List<int[]> rowsOfChairs() {
        List<int[]> rows = new ArrayList<>();
        int base = chairs() + 1;
        int all = (int) Math.round(Math.pow(base, sitters()));
        for (int code = 0; code < all; code++) {
            int[] row = new int[sitters()];
            int rest = code;
            for (int i = sitters() - 1; i >= 0; i--) {
                row[i] = rest % base == chairs() ? -1 : rest % base;
                rest /= base;
            }
            Set<Integer> used = new HashSet<>();
            boolean fine = true;
            for (int c : row) {
                fine &= c < 0 || used.add(c);
            }
            if (fine) {
                rows.add(row);
            }
        }
        return rows;
    }

    private int sumOf(int[] row) {
        int sum = 0;
        for (int i = 0; i < row.length; i++) {
            sum += partOf(row, i);
        }
        return sum;
    }

    private int partOf(int[] row, int sitter) {
        Set<Integer> taken = new HashSet<>();
        for (int c : row) {
            if (c >= 0) {
                taken.add(c);
            }
        }
        return row[sitter] < 0 ? 0 : value(now, sitter, row[sitter], taken);
    }

    private int[] seating(int absent) {
        int[] best = null;
        int most = -1;
        for (int[] row : rowsOfChairs()) {
            boolean fine = absent < 0 || row[absent] < 0;
            for (int c : row) {
                fine &= c < 0 || open(now, c);
            }
            if (fine && sumOf(row) > most) {
                most = sumOf(row);
                best = row;
            }
        }
        return best;
    }

    private int[] ringing() {
        int[] best = null;
        int mostChanges = -1;
        int mostHad = -1;
        Set<Integer> taken = taken(now, -1);
        for (int[] row : rowsOfChairs()) {
            boolean fine = true;
            int changes = 0;
            int had = 0;
            for (int i = 0; i < row.length; i++) {
                fine &= row[i] < 0 == now.place[i] < 0 && (row[i] < 0 || taken.contains(row[i]));
                if (!fine) {
                    break;
                }
                if (row[i] >= 0) {
                    int v = value(now, i, row[i], taken);
                    had += v;
                    if (row[i] != now.place[i]) {
                        changes++;
                        fine &= v > value(now, i, now.place[i], taken);
                    }
                }
            }
            if (fine && (changes > mostChanges || changes == mostChanges && had > mostHad)) {
                mostChanges = changes;
                mostHad = had;
                best = row;
            }
        }
        return best;
    }

    private void lay(int[] row) {
        lying = new ArrayList<>();
        for (int n : row) {
            lying.add(n);
        }
    }

    private int payoff(int sitter, int mine, int others) {
        if (mine == others) {
            return 0;
        }
        Set<Integer> taken = taken(now, -1);
        taken.add(mine);
        taken.add(others);
        return value(now, sitter, mine, taken);
    }

    private int rivals(int a, int b) {
        lying = new ArrayList<>();
        List<Integer> free = new ArrayList<>();
        for (int c = 0; c < chairs(); c++) {
            if (free(now, c)) {
                free.add(c);
            }
        }
        if (!sitterIs(a) || !sitterIs(b) || a == b || now.place[a] >= 0 || now.place[b] >= 0 || free.isEmpty()) {
            return -1;
        }
        int rests = 0;
        for (int p : free) {
            for (int q : free) {
                boolean rest = true;
                for (int r : free) {
                    rest &= payoff(a, r, q) <= payoff(a, p, q);
                    rest &= payoff(b, r, p) <= payoff(b, q, p);
                }
                if (rest && rests++ == 0) {
                    lying.add(p);
                    lying.add(q);
                }
            }
        }
        return rests;
    }

    private boolean chairIs(int c) {
        return c >= 0 && c < chairs();
    }

    private boolean sitterIs(int s) {
        return s >= 0 && s < sitters();
    }

    private int first(int chair, int likes) {
        return clamp(beach.formula.applyAsInt(new Given(beach.stripes.get(chair), likes, 1, 0, 0, 0)));
    }

    private List<Integer> fitting(int k) {
        List<Integer> fits = new ArrayList<>();
        for (int likes = 0; likes <= 30 && sitters() > 0; likes++) {
            boolean fine = true;
            for (Seen s : seen) {
                boolean counts = s.told() <= k && !(s.untold()[0] >= 0 && s.untold()[0] <= k);
                fine &= !counts || first(s.chair(), likes) >= s.much() == s.is();
            }
            if (fine) {
                fits.add(likes);
            }
        }
        return fits;
    }

    private int[] asking(int k) {
        List<Integer> fits = fitting(k);
        if (fits.isEmpty() || chairs() == 0) {
            return new int[] {-1, -1};
        }
        int[] best = null;
        for (int c = 0; c < chairs(); c++) {
            Map<Integer, Integer> groups = new HashMap<>();
            for (int likes : fits) {
                groups.merge(first(c, likes), 1, Integer::sum);
            }
            int most = groups.values().stream().mapToInt(i -> i).max().getAsInt();
            if (best == null || most < best[1]) {
                best = new int[] {c, most};
            }
        }
        return best;
    }

    private int bits(Set<Integer> set) {
        return set.stream().mapToInt(i -> 1 << i).sum();
    }

    private int openBits(State s) {
        Set<Integer> set = new HashSet<>();
        for (int c = 0; c < chairs(); c++) {
            if (open(s, c)) {
                set.add(c);
            }
        }
        return bits(set);
    }

    // ---- the calls ----

    int call(String name, int... a) {
        State before = now.copy();
        switch (name) {
            case "feed":
                if (tape.length() + 20 > 1600) {
                    return -1;
                }
                for (int n : a) {
                    for (int i = 3; i >= 0; i--) {
                        tape.append((char) (n >>> 8 * i & 255));
                    }
                }
                return tape.length();
            case "end":
                if (a[0] < 0 || a[0] > tape.length()) {
                    return -1;
                }
                tape.setLength(a[0]);
                return a[0];
            case "beach":
                text = tape.toString();
                fault = 0;
                place = -1;
                try {
                    parse();
                } catch (Fault f) {
                    fault = f.what;
                    place = f.place;
                    return -1;
                }
                beach = reading;
                tape.setLength(0);
                begin();
                return sitters();
            case "fault":
                return a[0] == 0 ? fault : a[0] == 1 ? place : -1;
            case "chair":
                if (!chairIs(a[0]) || a[1] < 0 || a[1] > 6) {
                    return -2;
                }
                int who = -1;
                for (int i = 0; i < sitters(); i++) {
                    who = now.place[i] == a[0] ? i : who;
                }
                int[] j = now.joints[a[0]];
                return new int[] {beach.stripes.get(a[0]), now.sand[a[0]], who, open(now, a[0]) ? 1 : 0,
                    j[0], j[1], j[2]}[a[1]];
            case "sitter":
                if (!sitterIs(a[0]) || a[1] < 0 || a[1] > 4) {
                    return -2;
                }
                return new int[] {beach.likes.get(a[0]), now.purse[a[0]], now.place[a[0]], now.sat[a[0]],
                    now.had[a[0]]}[a[1]];
            case "had":
                return sitterIs(a[0]) && chairIs(a[1]) ? would(a[0], a[1]) : -1;
            case "hour": {
                if (now.hour >= 999) {
                    return -1;
                }
                int paid = hourOf(now, true);
                act(before);
                return paid;
            }
            case "sit":
                if (!sitterIs(a[0]) || !chairIs(a[1]) || now.place[a[0]] >= 0 || !free(now, a[1])) {
                    return -1;
                }
                act(before);
                now.place[a[0]] = a[1];
                now.sat[a[0]] = 0;
                return would(a[0], a[1]);
            case "rise": {
                if (!sitterIs(a[0]) || now.place[a[0]] < 0) {
                    return -1;
                }
                act(before);
                int from = now.place[a[0]];
                now.place[a[0]] = -1;
                now.sat[a[0]] = 0;
                return from;
            }
            case "change":
                if (!sitterIs(a[0]) || !sitterIs(a[1]) || a[0] == a[1] || now.place[a[0]] < 0 || now.place[a[1]] < 0) {
                    return -1;
                }
                act(before);
                swap(now, a[0], a[1]);
                return all(now);
            case "move":
                if (!chairIs(a[0]) || a[1] < 0 || a[1] > 3 || taken(now, -1).contains(a[0])) {
                    return -1;
                }
                act(before);
                now.joints[a[0]] = moved(now.joints[a[0]], a[1]);
                return number(now.joints[a[0]]);
            case "fill":
                if (!sitterIs(a[0]) || a[1] < 1 || a[1] > 99 || now.purse[a[0]] == 999) {
                    return -1;
                }
                act(before);
                now.purse[a[0]] = Math.min(999, now.purse[a[0]] + a[1]);
                return now.purse[a[0]];
            case "undo":
                if (undos.isEmpty()) {
                    return 0;
                }
                redos.push(before);
                now = undos.pop();
                return 1;
            case "redo":
                if (redos.isEmpty()) {
                    return 0;
                }
                undos.push(before);
                now = redos.pop();
                return 1;
            default:
                return look(name, a);
        }
    }

    private static void swap(State s, int a, int b) {
        int chair = s.place[a];
        s.place[a] = s.place[b];
        s.place[b] = chair;
        s.sat[a] = 0;
        s.sat[b] = 0;
    }

    private int look(String name, int[] a) {
        State s = now.copy();
        switch (name) {
            case "will":
                if (!sitterIs(a[0]) || a[1] < 0 || a[1] > 60) {
                    return -1;
                }
                for (int i = 0; i < a[1]; i++) {
                    hourOf(s, false);
                }
                return s.had[a[0]];
            case "standing":
                if (a[0] < 0 || a[0] > 60) {
                    return -1;
                }
                for (int i = 0; i < a[0]; i++) {
                    hourOf(s, true);
                }
                return openBits(s);
            case "out": {
                int n = 0;
                while (sitterIs(a[0]) && n < 100 && s.place[a[0]] >= 0) {
                    hourOf(s, false);
                    n++;
                }
                return sitterIs(a[0]) && n < 100 ? n : -1;
            }
            case "seat":
                lay(seating(-1));
                return sumOf(seating(-1));
            case "toll": {
                if (!sitterIs(a[0])) {
                    return -1;
                }
                int[] seat = seating(-1);
                return sumOf(seating(a[0])) - (sumOf(seat) - partOf(seat, a[0]));
            }
            case "opening":
                lying = chairIs(a[0]) ? new ArrayList<>(opening(now.joints[a[0]])) : new ArrayList<>();
                return chairIs(a[0]) ? lying.size() : -1;
            case "trade": {
                int[] best = {-1, -1, all(now)};
                for (int i = 0; i < sitters(); i++) {
                    for (int k = i + 1; k < sitters(); k++) {
                        if (now.place[i] >= 0 && now.place[k] >= 0) {
                            State t = now.copy();
                            swap(t, i, k);
                            if (all(t) > best[2]) {
                                best = new int[] {i, k, all(t)};
                            }
                        }
                    }
                }
                return a[0] < 0 || a[0] > 2 || best[0] < 0 ? -1 : best[a[0]];
            }
            case "ring": {
                int[] row = ringing();
                lay(row);
                int changes = 0;
                for (int i = 0; i < row.length; i++) {
                    changes += row[i] != now.place[i] ? 1 : 0;
                }
                return changes;
            }
            case "envy": {
                if (!sitterIs(a[0]) || now.place[a[0]] < 0) {
                    return -1;
                }
                Set<Integer> set = new HashSet<>();
                for (int c = 0; c < chairs(); c++) {
                    if (open(now, c) && would(a[0], c) > would(a[0], now.place[a[0]])) {
                        set.add(c);
                    }
                }
                return bits(set);
            }
            case "row": {
                int n = 0;
                for (int c = 0; c < chairs(); c++) {
                    n += free(now, c) && (c - a[0]) * (c - a[1]) < 0 ? 1 : 0;
                }
                return chairIs(a[0]) && chairIs(a[1]) ? n : -1;
            }
            case "rivals":
                return rivals(a[0], a[1]);
            case "best": {
                int[] best = {-1, -1};
                for (int c = 0; c < chairs() && sitterIs(a[0]); c++) {
                    if (free(now, c) && would(a[0], c) > best[1]) {
                        best = new int[] {c, would(a[0], c)};
                    }
                }
                return a[1] == 0 || a[1] == 1 ? best[a[1]] : -1;
            }
            case "noon": {
                if (!sitterIs(a[0]) || !chairIs(a[1])) {
                    return -1;
                }
                int best = 0;
                for (int h = 0; h < 100; h++) {
                    s.hour = h;
                    int v = value(s, a[0], a[1], taken(s, a[0]));
                    s.hour = best;
                    if (v > value(s, a[0], a[1], taken(s, a[0]))) {
                        best = h;
                    }
                }
                return best;
            }
            default:
                return count(name, a);
        }
    }

    private int count(String name, int[] a) {
        Set<Integer> taken = taken(now, -1);
        Set<Integer> set = new HashSet<>();
        switch (name) {
            case "lonely":
                for (int i = 0; i < sitters(); i++) {
                    int c = now.place[i];
                    if (c >= 0 && !taken.contains(c - 1) && !taken.contains(c + 1)) {
                        set.add(i);
                    }
                }
                return bits(set);
            case "gap": {
                int most = 0;
                for (int from = 0; from < chairs(); from++) {
                    int c = from;
                    while (c < chairs() && free(now, c)) {
                        c++;
                    }
                    most = Math.max(most, c - from);
                }
                return most;
            }
            case "broke":
                for (int i = 0; i < sitters(); i++) {
                    if (now.place[i] >= 0 && would(i, now.place[i]) > now.purse[i]) {
                        set.add(i);
                    }
                }
                return bits(set);
            case "throne": {
                int best = -1;
                for (int c = chairs() - 1; c >= 0; c--) {
                    best = best < 0 || now.sand[c] >= now.sand[best] ? c : best;
                }
                return best;
            }
            case "couples":
                return (int) taken.stream().filter(c -> taken.contains(c + 1)).count();
            case "veteran": {
                int best = -1;
                for (int i = sitters() - 1; i >= 0; i--) {
                    best = now.place[i] >= 0 && (best < 0 || now.sat[i] >= now.sat[best]) ? i : best;
                }
                return best;
            }
            case "richest": {
                int best = -1;
                for (int i = sitters() - 1; i >= 0; i--) {
                    best = best < 0 || now.purse[i] >= now.purse[best] ? i : best;
                }
                return best;
            }
            case "takings":
                return Arrays.stream(now.had).sum();
            case "law": {
                State s = now.copy();
                Arrays.fill(s.sand, a[0]);
                return a[0] < 0 || a[0] > 99 ? -1 : all(s);
            }
            case "worst": {
                int[] best = {-1, -1};
                for (int n = 0; n < 64; n++) {
                    int moves = opening(new int[] {n / 16, n / 4 % 4, n % 4}).size();
                    if (moves > best[1]) {
                        best = new int[] {n, moves};
                    }
                }
                return a[0] == 0 || a[0] == 1 ? best[a[0]] : -1;
            }
            case "odds": {
                if (a[0] < 0 || a[0] > 4 || a[1] < 0 || a[1] > 1) {
                    return -1;
                }
                java.math.BigInteger up = java.math.BigInteger.valueOf(100 - beach.gust).pow(a[0]);
                java.math.BigInteger low = java.math.BigInteger.valueOf(100).pow(a[0]);
                return (a[1] == 0 ? up : low).divide(up.gcd(low)).intValueExact();
            }
            case "lies":
                return a[0] >= 0 && a[0] < lying.size() ? lying.get(a[0]) : -2;
            default:
                return know(name, a);
        }
    }

    private int know(String name, int[] a) {
        switch (name) {
            case "seen":
                if (!chairIs(a[0]) || a[1] < 0 || a[1] > 99 || seen.size() == 30 || sitters() == 0) {
                    return -1;
                }
                seen.add(new Seen(a[0], a[1], a[2] != 0, time, new int[] {-1}));
                return seen.size() - 1;
            case "untell":
                if (a[0] < 0 || a[0] >= seen.size() || seen.get(a[0]).untold()[0] >= 0) {
                    return 0;
                }
                seen.get(a[0]).untold()[0] = time;
                return 1;
            case "later":
                if (a[0] < 0 || a[0] > 1000 || time + a[0] > 100000) {
                    return -1;
                }
                time += a[0];
                return time;
            case "fits":
                return fitting(a[0]).size();
            case "sure": {
                List<Integer> fits = fitting(a[1]);
                if (fits.isEmpty() || a[0] < 0 || a[0] > 1) {
                    return -1;
                }
                return fits.get(a[0] == 0 ? 0 : fits.size() - 1);
            }
            case "ask":
                return a[0] == 0 || a[0] == 1 ? asking(a[1])[a[0]] : -1;
            case "image":
                if (a[0] < 0 || a[0] > 2) {
                    return -1;
                }
                boxes.put(a[0], now.copy());
                return now.hour;
            case "back":
                if (!boxes.containsKey(a[0])) {
                    return -1;
                }
                now = boxes.get(a[0]).copy();
                undos.clear();
                redos.clear();
                return now.hour;
            case "about": {
                int[] all = {sitters(), chairs(), openBits(now), bits(taken(now, -1)), now.hour, now.seed,
                    undos.size(), redos.size(), seen.size(), time, tape.length(), beach.units, lying.size(),
                    beach.gust};
                return a[0] >= 0 && a[0] < all.length ? all[a[0]] : -1;
            }
            default:
                throw new IllegalArgumentException(name);
        }
    }
}
