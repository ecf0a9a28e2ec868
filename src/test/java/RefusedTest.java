/**
 * All calls of the face, each with numbers that can be and that can't: what is refused does nothing, what
 * just looks does nothing but lay down what the document says. Promises 2 to 50.
 */
public final class RefusedTest {
    static final String RICH = "chair red stripes 3;chair blue stripes 1 shut 1 1 1;chair plain stripes 0;"
            + "chair last stripes 5;sitter ann purse 20 likes 4;sitter bob purse 9 likes 2;"
            + "sitter cid purse 99 likes 0;gust 30;draw 7;had 5 + alone * 2 - stripes + likes + sat + hour % 3;";
    private static final int MIN = Integer.MIN_VALUE;
    private static final int MAX = Integer.MAX_VALUE;
    private static final int[] NUMBERS = {MIN, -100, -2, -1, 0, 1, 2, 3, 4, 5, 6, 7, 30, 60, 61, 99, 100, 101, 999, 1000,
        1001, 1601, 100001, MAX};
    private static final int[] SECOND_NUMBERS = {MIN, -1, 0, 1, 2, 3, 4, 5, 60, 61, 99, 100, MAX};
    private static final Twins.Calls RICH_STATE = RefusedTest::rich;

    private RefusedTest() {
    }

    public static void main(String[] args) {
        refusedActs();
        refusedTape();
        refusedHour();
        refusedSeen();
        refusedTimes();
        refusedBoxes();
        nothingToUndoOrRedo();
        looksOnly();
        looksThatLayDown();
        actsGoOn();
        Check.end("RefusedTest");
    }

    /**
     * ann SITS in plain, bob in last, cid in none; ACTS to be undone and to be redone, two BOXES filled, one
     * SEEN that counts and one UNTOLD, three numbers lie there, 14 bytes with a FAULT are on the TAPE.
     */
    static void rich(DeckChairs x) {
        x.end(0);
        Check.tell(x, RICH);
        x.later(3);
        x.seen(0, 15, true);
        x.later(2);
        x.seen(1, 30, false);
        x.untell(0);
        x.later(1);
        x.sit(0, 2);
        x.image(0);
        x.hour();
        x.sit(1, 3);
        x.move(1, 2);
        x.image(2);
        x.fill(0, 5);
        x.fill(1, 30);
        x.hour();
        x.fill(2, 5);
        x.rise(0);
        x.undo();
        x.undo();
        x.seat();
        Check.feed(x, "gust 5;gust 6;");
        x.beach();
    }

    private static void isRich() {
        DeckChairs x = Twins.made(RICH_STATE);
        int[] want = {3, 4, 13, 12, 2, x.about(5), 7, 2, 2, 6, 14, x.about(11), 3, 30};
        for (int what = 0; what < want.length; what++) {
            Check.due("about(" + what + ") of the rich one", x.about(what), want[what]);
        }
    }

    private static void refusedActs() {
        isRich();
        for (int a : NUMBERS) {
            if (a != 0 && a != 1) {
                Twins.refused("rise(" + a + ")", RICH_STATE, x -> x.rise(a), -1);
            }
            for (int b : SECOND_NUMBERS) {
                boolean canSit = a == 2 && b == 0;
                if (!canSit) {
                    Twins.refused("sit(" + a + ", " + b + ")", RICH_STATE, x -> x.sit(a, b), -1);
                }
                boolean canChange = a == 0 && b == 1 || a == 1 && b == 0;
                if (!canChange) {
                    Twins.refused("change(" + a + ", " + b + ")", RICH_STATE, x -> x.change(a, b), -1);
                }
                boolean canMove = (a == 0 || a == 1) && b >= 0 && b <= 3;
                if (!canMove) {
                    Twins.refused("move(" + a + ", " + b + ")", RICH_STATE, x -> x.move(a, b), -1);
                }
                boolean canFill = a >= 0 && a <= 2 && b >= 1 && b <= 99;
                if (!canFill) {
                    Twins.refused("fill(" + a + ", " + b + ")", RICH_STATE, x -> x.fill(a, b), -1);
                }
            }
        }
        Twins.refused("fill(2, 1) where there is 999", x -> {
            rich(x);
            for (int i = 0; i < 10; i++) {
                x.fill(2, 99);
            }
            x.undo();
            x.redo();
        }, x -> x.fill(2, 1), -1);
        Twins.refused("sit(2, 0) in a CHAIR that was shut by a MOVE", x -> {
            rich(x);
            x.move(0, 3);
        }, x -> x.sit(2, 0), -1);
        Twins.refused("rise(0) of one who got up", x -> {
            rich(x);
            x.rise(0);
            x.undo();
            x.redo();
        }, x -> x.rise(0), -1);
    }

    private static void refusedTape() {
        for (int n : NUMBERS) {
            if (n < 0 || n > 14) {
                Twins.refused("end(" + n + ")", RICH_STATE, x -> x.end(n), -1);
            }
        }
        Twins.refused("end(15) of 14", RICH_STATE, x -> x.end(15), -1);
        Twins.refused("end(14) of 14", RICH_STATE, x -> x.end(14), 14);
        for (int n : new int[] {1581, 1590, 1599, 1600}) {
            Twins.Calls full = x -> {
                rich(x);
                x.end(0);
                for (int i = 0; i < 80; i++) {
                    x.feed(0x20202020, 0x20202020, 0x20202020, 0x20202020, 0x20202020);
                }
                x.end(n);
            };
            Twins.refused("feed() behind " + n, full, x -> x.feed(-1, -1, -1, -1, -1), -1);
        }
    }

    private static void refusedHour() {
        Twins.Calls late = x -> {
            Check.tell(x, "chair a stripes 0;chair b stripes 0;sitter s purse 9 likes 0;had 0;gust 1;draw 1;");
            x.sit(0, 0);
            for (int i = 0; i < 999; i++) {
                x.hour();
            }
        };
        Check.due("999 of them", Twins.made(late).about(4), 999);
        Twins.refused("hour() behind 999", late, x -> x.hour(), -1);
    }

    private static void refusedSeen() {
        for (int a : NUMBERS) {
            for (int b : SECOND_NUMBERS) {
                if (a < 0 || a > 3 || b < 0 || b > 99) {
                    Twins.refused("seen(" + a + ", " + b + ", true)", RICH_STATE, x -> x.seen(a, b, true), -1);
                    Twins.refused("seen(" + a + ", " + b + ", false)", RICH_STATE, x -> x.seen(a, b, false), -1);
                }
            }
            if (a != 1) {
                Twins.refused("untell(" + a + ")", RICH_STATE, x -> x.untell(a) ? 1 : 0, 0);
            }
        }
        Twins.refused("the 31st SEEN", x -> {
            rich(x);
            for (int i = 2; i < 30; i++) {
                x.seen(i % 4, i, false);
            }
        }, x -> x.seen(0, 50, true), -1);
        Twins.refused("a SEEN without SITTERS", x -> Check.tell(x, "chair a stripes 0;"), x -> x.seen(0, 5, true), -1);
        Twins.refused("a SEEN without CHAIRS", x -> Check.tell(x, "sitter s purse 0 likes 0;"), x -> x.seen(0, 5, true), -1);
    }

    private static void refusedTimes() {
        for (int by : NUMBERS) {
            if (by < 0 || by > 1000) {
                Twins.refused("later(" + by + ")", RICH_STATE, x -> x.later(by), -1);
            }
        }
        Twins.refused("later(0)", RICH_STATE, x -> x.later(0), 6);
        Twins.Calls late = x -> {
            for (int i = 0; i < 99; i++) {
                x.later(1000);
            }
            x.later(994);
            rich(x);
        };
        Check.due("the TIME", Twins.made(late).about(9), 100000);
        Twins.refused("later(1) above 100,000", late, x -> x.later(1), -1);
        Twins.refused("later(1000) above 100,000", late, x -> x.later(1000), -1);
        Twins.refused("later(0) at 100,000", late, x -> x.later(0), 100000);
    }

    private static void refusedBoxes() {
        for (int box : NUMBERS) {
            if (box < 0 || box > 2) {
                Twins.refused("image(" + box + ")", RICH_STATE, x -> x.image(box), -1);
                Twins.refused("back(" + box + ")", RICH_STATE, x -> x.back(box), -1);
            }
        }
        Twins.refused("back(1) of an empty BOX", RICH_STATE, x -> x.back(1), -1);
    }

    private static void nothingToUndoOrRedo() {
        Twins.refused("undo() of nothing", x -> {
            rich(x);
            for (int i = 0; i < 9; i++) {
                x.undo();
            }
        }, x -> x.undo() ? 1 : 0, 0);
        Twins.refused("redo() of nothing", x -> {
            rich(x);
            x.redo();
            x.redo();
        }, x -> x.redo() ? 1 : 0, 0);
        Twins.refused("undo() of a new object", x -> { }, x -> x.undo() ? 1 : 0, 0);
        Twins.refused("redo() of a new object", x -> { }, x -> x.redo() ? 1 : 0, 0);
    }

    /** What looks and lays nothing down, whatever it is asked. */
    private static void looksOnly() {
        Twins.Calls rich = RICH_STATE;
        for (int a : NUMBERS) {
            Twins.looks("fault(" + a + ")", rich, x -> x.fault(a), true);
            Twins.looks("standing(" + a + ")", rich, x -> x.standing(a), true);
            Twins.looks("out(" + a + ")", rich, x -> x.out(a), true);
            Twins.looks("toll(" + a + ")", rich, x -> x.toll(a), true);
            Twins.looks("trade(" + a + ")", rich, x -> x.trade(a), true);
            Twins.looks("envy(" + a + ")", rich, x -> x.envy(a), true);
            Twins.looks("law(" + a + ")", rich, x -> x.law(a), true);
            Twins.looks("worst(" + a + ")", rich, x -> x.worst(a), true);
            Twins.looks("lies(" + a + ")", rich, x -> x.lies(a), true);
            Twins.looks("fits(" + a + ")", rich, x -> x.fits(a), true);
            Twins.looks("about(" + a + ")", rich, x -> x.about(a), true);
            for (int b : SECOND_NUMBERS) {
                looksOnly(rich, a, b);
            }
        }
        Twins.looks("lonely()", rich, x -> x.lonely(), true);
        Twins.looks("gap()", rich, x -> x.gap(), true);
        Twins.looks("broke()", rich, x -> x.broke(), true);
        Twins.looks("throne()", rich, x -> x.throne(), true);
        Twins.looks("couples()", rich, x -> x.couples(), true);
        Twins.looks("veteran()", rich, x -> x.veteran(), true);
        Twins.looks("richest()", rich, x -> x.richest(), true);
        Twins.looks("takings()", rich, x -> x.takings(), true);
    }

    private static void looksOnly(Twins.Calls rich, int a, int b) {
        String with = "(" + a + ", " + b + ")";
        Twins.looks("chair" + with, rich, x -> x.chair(a, b), true);
        Twins.looks("sitter" + with, rich, x -> x.sitter(a, b), true);
        Twins.looks("had" + with, rich, x -> x.had(a, b), true);
        Twins.looks("will" + with, rich, x -> x.will(a, b), true);
        Twins.looks("row" + with, rich, x -> x.row(a, b), true);
        Twins.looks("best" + with, rich, x -> x.best(a, b), true);
        Twins.looks("noon" + with, rich, x -> x.noon(a, b), true);
        Twins.looks("odds" + with, rich, x -> x.odds(a, b), true);
        Twins.looks("sure" + with, rich, x -> x.sure(a, b), true);
        Twins.looks("ask" + with, rich, x -> x.ask(a, b), true);
    }

    /** What lays numbers down does nothing else; behind NONE, and behind 0 RESTS, nothing lies there. */
    private static void looksThatLayDown() {
        Twins.Calls rich = RICH_STATE;
        Twins.looks("seat()", rich, x -> x.seat(), false);
        Twins.looks("ring()", rich, x -> x.ring(), false);
        for (int a : NUMBERS) {
            Twins.looks("opening(" + a + ")", rich, x -> x.opening(a), false);
            DeckChairs x = Twins.made(rich);
            Check.due("three lie there before", x.about(12), 3);
            if (a < 0 || a > 3) {
                Check.due("opening(" + a + ")", x.opening(a), -1);
                Check.lies("behind opening(" + a + ")", x);
            }
            for (int b : SECOND_NUMBERS) {
                Twins.looks("rivals(" + a + ", " + b + ")", rich, y -> y.rivals(a, b), false);
                DeckChairs z = Twins.made(rich);
                // Just cid SITS in none, so that there are never two.
                Check.due("rivals(" + a + ", " + b + ")", z.rivals(a, b), -1);
                Check.lies("behind rivals(" + a + ", " + b + ")", z);
            }
        }
    }

    /** The same calls that are refused above for one number are done for the one beside it. */
    private static void actsGoOn() {
        String was = Twins.look(Twins.made(RICH_STATE));
        Twins.Call[] acts = {x -> x.hour(), x -> x.sit(2, 0), x -> x.rise(0), x -> x.rise(1), x -> x.change(0, 1),
            x -> x.move(0, 0), x -> x.move(1, 3), x -> x.fill(0, 1), x -> x.fill(2, 99)};
        for (int i = 0; i < acts.length; i++) {
            DeckChairs x = Twins.made(RICH_STATE);
            Check.due("ACT " + i + " is done", acts[i].on(x) >= 0, true);
            Check.due("ACT " + i + " can be undone", x.about(6), 8);
            Check.due("ACT " + i + ": nothing can be redone", x.about(7), 0);
            Check.due("ACT " + i + ": redo()", x.redo(), false);
            String then = Twins.look(x);
            Check.due("ACT " + i + ": undo()", x.undo(), true);
            Twins.same("ACT " + i + " undone", kept(Twins.look(x)), kept(was));
            Check.due("ACT " + i + ": redo()", x.redo(), true);
            Twins.same("ACT " + i + " redone", Twins.look(x), then);
            Check.due("ACT " + i + " leaves what lies there", x.about(12), 3);
        }
    }

    /** But for what can be redone. */
    private static String kept(String look) {
        return look.replaceAll("about 7: .*", "");
    }
}
