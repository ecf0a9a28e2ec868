import java.util.Arrays;
import java.util.Random;

/** Random runs of calls (by a fixed seed), each answer held against the Model's. All promises. */
public final class ModelTest {
    private static final int RUNS = 1500;
    private static final int CALLS = 300;
    // As many as an object is used for, once in a while.
    private static final int CALLS_MOST = 512;

    private static final String[] ACTS = {"hour", "hour", "hour", "sit", "sit", "sit", "sit", "rise", "change",
        "change", "move", "move", "fill", "undo", "undo", "redo", "image", "back"};
    private static final String[] LOOKS = {"chair", "sitter", "had", "will", "standing", "out", "seat", "toll",
        "opening", "trade", "ring", "envy", "row", "rivals", "best", "noon", "lonely", "gap", "broke", "throne",
        "couples", "veteran", "richest", "takings", "law", "worst", "odds", "lies", "lies", "lies", "seen", "untell",
        "later", "fits", "sure", "ask", "about", "about", "about", "fault", "feed", "end"};

    private static final Random RANDOM = new Random(20261118);

    private ModelTest() {
    }

    public static void main(String[] args) {
        for (int run = 0; run < RUNS; run++) {
            DeckChairs x = new DeckChairs();
            Model m = new Model();
            Texts texts = new Texts(RANDOM);
            boolean fine = tell(run, x, m, texts.next(run % 3 == 2));
            int calls = run % 10 == 0 ? CALLS_MOST : CALLS;
            for (int i = 0; i < calls && fine; i++) {
                if (RANDOM.nextInt(150) == 0) {
                    fine = tell(run, x, m, texts.next(RANDOM.nextInt(3) == 0));
                } else {
                    String name = RANDOM.nextInt(3) == 0 ? pick(ACTS) : pick(LOOKS);
                    fine = compare(run, x, m, name, arguments(name));
                }
            }
        }
        Check.end("ModelTest");
    }

    private static String pick(String[] names) {
        return names[RANDOM.nextInt(names.length)];
    }

    /** A number that is mostly one from .. to, sometimes one beside or far off. */
    private static int about(int from, int to) {
        switch (RANDOM.nextInt(24)) {
            case 0:
                return from - 1;
            case 1:
                return to + 1;
            case 2:
                return new int[] {Integer.MIN_VALUE, Integer.MAX_VALUE, RANDOM.nextInt()}[RANDOM.nextInt(3)];
            default:
                return from + RANDOM.nextInt(to - from + 1);
        }
    }

    private static int[] arguments(String name) {
        switch (name) {
            case "sit", "had", "change", "row", "rivals", "noon":
                return new int[] {about(0, 4), about(0, 4)};
            case "chair":
                return new int[] {about(0, 4), about(0, 6)};
            case "sitter":
                return new int[] {about(0, 4), about(0, 4)};
            case "rise", "out", "toll", "opening", "envy":
                return new int[] {about(0, 4)};
            case "move":
                return new int[] {about(0, 4), about(0, 3)};
            case "fill":
                return new int[] {about(0, 4), about(1, 99)};
            case "will":
                return new int[] {about(0, 4), about(0, 60)};
            case "standing":
                return new int[] {about(0, 60)};
            case "image", "back", "trade":
                return new int[] {about(0, 2)};
            case "best":
                return new int[] {about(0, 4), about(0, 1)};
            case "law":
                return new int[] {about(0, 99)};
            case "worst", "fault":
                return new int[] {about(0, 1)};
            case "odds":
                return new int[] {about(0, 4), about(0, 1)};
            case "lies":
                return new int[] {about(0, 5)};
            case "seen":
                return new int[] {about(0, 4), about(0, 40), RANDOM.nextInt(4) == 0 ? 0 : 1};
            case "untell":
                return new int[] {about(0, 12)};
            case "later":
                return new int[] {about(0, RANDOM.nextInt(5) == 0 ? 1000 : 5)};
            case "fits":
                return new int[] {about(0, 60)};
            case "sure", "ask":
                return new int[] {about(0, 1), about(0, 60)};
            case "about":
                return new int[] {about(0, 13)};
            case "feed":
                return new int[] {RANDOM.nextInt(), RANDOM.nextInt(), RANDOM.nextInt(), 0x20202020, RANDOM.nextInt()};
            case "end":
                return new int[] {about(0, 30)};
            default:
                return new int[0];
        }
    }

    private static boolean tell(int run, DeckChairs x, Model m, String text) {
        boolean fine = compare(run, x, m, "end", 0);
        for (int i = 0; i < text.length() && fine; i += 20) {
            int[] five = new int[5];
            for (int k = 0; k < 20; k++) {
                five[k / 4] = five[k / 4] << 8 | (i + k < text.length() ? text.charAt(i + k) : ' ');
            }
            fine = compare(run, x, m, "feed", five);
        }
        fine = fine && compare(run, x, m, "end", text.length()) && compare(run, x, m, "beach")
                && compare(run, x, m, "fault", 0) && compare(run, x, m, "fault", 1);
        if (!fine) {
            System.out.println("  the text: " + text);
        }
        return fine;
    }

    private static boolean compare(int run, DeckChairs x, Model m, String name, int... a) {
        int got = call(x, name, a);
        int want = m.call(name, a);
        Check.due("run " + run + ": " + name + Arrays.toString(a), got, want);
        return got == want;
    }

    private static int one(boolean is) {
        return is ? 1 : 0;
    }

    private static int call(DeckChairs x, String name, int[] a) {
        return switch (name) {
            case "feed" -> x.feed(a[0], a[1], a[2], a[3], a[4]);
            case "end" -> x.end(a[0]);
            case "beach" -> x.beach();
            case "fault" -> x.fault(a[0]);
            case "chair" -> x.chair(a[0], a[1]);
            case "sitter" -> x.sitter(a[0], a[1]);
            case "had" -> x.had(a[0], a[1]);
            case "hour" -> x.hour();
            case "sit" -> x.sit(a[0], a[1]);
            case "rise" -> x.rise(a[0]);
            case "change" -> x.change(a[0], a[1]);
            case "move" -> x.move(a[0], a[1]);
            case "fill" -> x.fill(a[0], a[1]);
            case "undo" -> one(x.undo());
            case "redo" -> one(x.redo());
            case "will" -> x.will(a[0], a[1]);
            case "standing" -> x.standing(a[0]);
            case "out" -> x.out(a[0]);
            case "seat" -> x.seat();
            case "toll" -> x.toll(a[0]);
            case "opening" -> x.opening(a[0]);
            case "trade" -> x.trade(a[0]);
            case "ring" -> x.ring();
            case "envy" -> x.envy(a[0]);
            case "row" -> x.row(a[0], a[1]);
            case "rivals" -> x.rivals(a[0], a[1]);
            case "best" -> x.best(a[0], a[1]);
            case "noon" -> x.noon(a[0], a[1]);
            case "lonely" -> x.lonely();
            case "gap" -> x.gap();
            case "broke" -> x.broke();
            case "throne" -> x.throne();
            case "couples" -> x.couples();
            case "veteran" -> x.veteran();
            case "richest" -> x.richest();
            case "takings" -> x.takings();
            case "law" -> x.law(a[0]);
            case "worst" -> x.worst(a[0]);
            case "odds" -> x.odds(a[0], a[1]);
            case "lies" -> x.lies(a[0]);
            case "seen" -> x.seen(a[0], a[1], a[2] != 0);
            case "untell" -> one(x.untell(a[0]));
            case "later" -> x.later(a[0]);
            case "fits" -> x.fits(a[0]);
            case "sure" -> x.sure(a[0], a[1]);
            case "ask" -> x.ask(a[0], a[1]);
            case "image" -> x.image(a[0]);
            case "back" -> x.back(a[0]);
            case "about" -> x.about(a[0]);
            default -> throw new IllegalArgumentException(name);
        };
    }
}
