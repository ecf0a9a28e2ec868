/** For each promise what it asks for: ordinary inputs, the edges that the document names, wrong inputs. */
public final class PromisesTest {
    private static final String BEACH = "chair red stripes 3;chair blue stripes 1 shut 1 1 1;chair plain stripes 0;"
            + "chair last stripes 5;sitter ann purse 20 likes 4;sitter bob purse 9 likes 2;"
            + "sitter cid purse 99 likes 0;gust 30;draw 7;";
    private static final String ONE = "chair a stripes 3;sitter s purse 50 likes 4;";
    /** Each likes the CHAIR behind his own one best. */
    private static final String ROUND = "chair a stripes 0;chair b stripes 1;chair c stripes 2;"
            + "sitter s purse 50 likes 0;sitter t purse 50 likes 1;sitter u purse 50 likes 2;sitter v purse 50 likes 3;"
            + "had (stripes = (likes + 1) % 3) * 10 + 1;";
    private static final int MIN = Integer.MIN_VALUE;
    private static final int MAX = Integer.MAX_VALUE;

    private PromisesTest() {
    }

    public static void main(String[] args) {
        newObject();
        feed();
        end();
        beach();
        fault();
        chair();
        sitter();
        had();
        formulas();
        hour();
        hourLimits();
        sit();
        rise();
        change();
        move();
        fill();
        undoAndRedo();
        will();
        standing();
        out();
        seat();
        toll();
        opening();
        trade();
        ring();
        envy();
        row();
        rivals();
        best();
        noon();
        lonelyGapCouples();
        broke();
        throneVeteranRichest();
        takingsAndLaw();
        worst();
        odds();
        lies();
        seenAndUntell();
        later();
        fitsAndSure();
        ask();
        imageAndBack();
        about();
        fullBeach();
        Check.end("PromisesTest");
    }

    private static void newObject() {
        DeckChairs x = new DeckChairs();
        for (int what = 0; what <= 13; what++) {
            Check.due("about(" + what + ") of a new object", x.about(what), 0);
        }
        Check.due("NONE", DeckChairs.NONE, -1);
        DeckChairs y = new DeckChairs();
        Check.tell(y, BEACH);
        Check.due("another object's BEACH", x.about(0), 0);
        Check.due("throne() without CHAIRS", x.throne(), -1);
        Check.due("richest() without SITTERS", x.richest(), -1);
        Check.due("seat() without SITTERS", x.seat(), 0);
        Check.due("hour() of an empty BEACH", x.hour(), 0);
    }

    private static void feed() {
        DeckChairs x = new DeckChairs();
        // "gust 77;" and blanks: of each number the highest byte comes first.
        Check.due("feed", x.feed(0x67757374, 0x2037373b, 0x20202020, 0x20202020, 0x0a0a0a0a), 20);
        Check.due("beach()", x.beach(), 0);
        Check.due("about(13)", x.about(13), 77);
        for (int i = 1; i <= 80; i++) {
            Check.due("feed " + i, x.feed(-1, 0, MIN, MAX, 1), 20 * i);
        }
        Check.due("feed beyond 1,600", x.feed(0, 0, 0, 0, 0), -1);
        Check.due("about(10)", x.about(10), 1600);
        x.end(1581);
        Check.due("feed to 1,601", x.feed(0, 0, 0, 0, 0), -1);
        x.end(1580);
        Check.due("feed to 1,600", x.feed(0, 0, 0, 0, 0), 1600);
        x.end(0);
        Check.tell(x, " ".repeat(1593) + "gust 9;");
        Check.due("a text of 1,600 bytes", x.about(13), 9);
    }

    private static void end() {
        DeckChairs x = new DeckChairs();
        Check.due("end(0)", x.end(0), 0);
        Check.due("end(1) of nothing", x.end(1), -1);
        x.feed(0x67757374, 0x20353b67, 0, 0, 0);
        Check.due("end(21)", x.end(21), -1);
        Check.due("end(-1)", x.end(-1), -1);
        Check.due("end(MIN)", x.end(MIN), -1);
        Check.due("end(MAX)", x.end(MAX), -1);
        Check.due("about(10)", x.about(10), 20);
        Check.due("end(20)", x.end(20), 20);
        Check.due("end(7)", x.end(7), 7);
        Check.due("about(10)", x.about(10), 7);
        Check.due("end(8) of 7", x.end(8), -1);
        Check.due("beach()", x.beach(), 0);
        Check.due("gust", x.about(13), 5);
    }

    private static void beach() {
        DeckChairs x = Check.told(BEACH);
        x.sit(0, 2);
        x.hour();
        x.undo();
        x.seen(0, 5, true);
        x.later(9);
        x.image(1);
        x.seat();
        Check.feed(x, "gust 5;gust");
        Check.due("beach() with a FAULT", x.beach(), -1);
        Check.due("behind a FAULT: TAPE", x.about(10), 11);
        Check.due("behind a FAULT: SITTERS", x.about(0), 3);
        Check.due("behind a FAULT: gust", x.about(13), 30);
        Check.due("behind a FAULT: taken", x.about(3), 4);
        Check.due("behind a FAULT: undone", x.about(6), 1);
        Check.due("behind a FAULT: redone", x.about(7), 1);
        Check.due("behind a FAULT: SEEN", x.about(8), 1);
        Check.due("behind a FAULT: lies", x.about(12), 3);
        x.hour();
        x.end(7);
        Check.due("beach()", x.beach(), 0);
        int[] want = {0, 0, 0, 0, 0, 0, 0, 0, 0, 9, 0, 0, 0, 5};
        for (int what = 0; what < want.length; what++) {
            Check.due("about(" + what + ") behind a new BEACH", x.about(what), want[what]);
        }
        Check.due("back(1) behind a new BEACH", x.back(1), -1);
        Check.due("beach() of an empty TAPE", x.beach(), 0);
        Check.due("gust is told no more", x.about(13), 0);
        Check.tell(x, BEACH);
        Check.due("had at first", x.sitter(0, 4), 0);
        Check.due("SEED at first", x.about(5), 7);
    }

    private static void fault() {
        DeckChairs x = new DeckChairs();
        Check.due("fault(0) before beach()", x.fault(0), 0);
        Check.due("fault(1) before beach()", x.fault(1), -1);
        Check.tell(x, "  gust 101;");
        Check.due("fault(0)", x.fault(0), 4);
        Check.due("fault(1)", x.fault(1), 7);
        Check.due("fault(2)", x.fault(2), -1);
        Check.due("fault(-1)", x.fault(-1), -1);
        x.end(0);
        x.beach();
        Check.due("fault(0) behind one without", x.fault(0), 0);
        Check.due("fault(1) behind one without", x.fault(1), -1);
    }

    private static void chair() {
        DeckChairs x = Check.told("chair a stripes 9 shut 1 2 3;chair b stripes 2;sitter s purse 50 likes 4;");
        int[] first = {9, 0, -1, 0, 1, 2, 3};
        int[] second = {2, 1, 0, 1, 0, 0, 0};
        x.sit(0, 1);
        x.hour();
        for (int what = 0; what < 7; what++) {
            Check.due("chair(0, " + what + ")", x.chair(0, what), first[what]);
            Check.due("chair(1, " + what + ")", x.chair(1, what), second[what]);
        }
        for (int wrong : new int[] {-1, 7, MIN, MAX}) {
            Check.due("chair(0, " + wrong + ")", x.chair(0, wrong), -2);
            Check.due("chair(" + wrong + ", 0)", x.chair(wrong, 0), -2);
        }
        Check.due("chair(2, 0)", x.chair(2, 0), -2);
    }

    private static void sitter() {
        DeckChairs x = Check.told(BEACH);
        x.sit(0, 2);
        x.hour();
        int[] first = {4, 9, 2, 1, 11};
        int[] second = {2, 9, -1, 0, 0};
        for (int what = 0; what < 5; what++) {
            Check.due("sitter(0, " + what + ")", x.sitter(0, what), first[what]);
            Check.due("sitter(1, " + what + ")", x.sitter(1, what), second[what]);
        }
        for (int wrong : new int[] {-1, 5, MIN, MAX}) {
            Check.due("sitter(0, " + wrong + ")", x.sitter(0, wrong), -2);
            Check.due("sitter(" + wrong + ", 0)", x.sitter(wrong, 0), -2);
        }
        Check.due("sitter(3, 0)", x.sitter(3, 0), -2);
    }

    private static void had() {
        DeckChairs x = Check.told("chair a stripes 0;chair b stripes 0;chair c stripes 0 shut 1 0 0;"
                + "sitter s purse 50 likes 0;sitter t purse 50 likes 9;had likes + 10 * alone + 20 * sat + 40 * sand;");
        Check.due("nobody sits", x.had(0, 1), 10);
        Check.due("a shut one", x.had(1, 2), 19);
        x.sit(0, 1);
        Check.due("next to another one", x.had(1, 0), 9);
        Check.due("where another one sits", x.had(1, 1), 19);
        Check.due("next to his own", x.had(0, 0), 10);
        Check.due("in his own", x.had(0, 1), 10);
        x.hour();
        Check.due("sat and sand in his own", x.had(0, 1), 70);
        Check.due("sand in another one's", x.had(1, 1), 59);
        Check.due("sat elsewhere", x.had(0, 0), 10);
        x.sit(1, 0);
        Check.due("with a neighbour", x.had(0, 1), 60);
        for (int wrong : new int[] {-1, 3, MIN, MAX}) {
            Check.due("had(0, " + wrong + ")", x.had(0, wrong), -1);
            Check.due("had(" + wrong + ", 0)", x.had(wrong, 0), -1);
        }
        Check.due("had(2, 0)", x.had(2, 0), -1);
    }

    private static void value(String formula, int want) {
        DeckChairs x = Check.told(ONE + "had " + formula + ";");
        Check.due(formula, x.had(0, 0), want);
    }

    private static void formulas() {
        value("2 + 3 * 4", 14);
        value("10 - 3 - 2", 5);
        value("24 / 4 / 2", 3);
        value("(2 + 3) * 4", 20);
        value("17 % 5 * 2", 4);
        value("stripes * 10 + likes", 34);
        value("alone * 10 + sat + sand + hour", 10);
        value("0 - 7", 0);
        value("100", 99);
        value("99", 99);
        value("7 / 0 + 1", 1);
        value("7 % 0 + 1", 1);
        value("(0 - 7) / 2 + 10", 7);
        value("(0 - 7) % 4 + 10", 7);
        value("7 % (0 - 4) + 10", 13);
        value("9999 * 9999 * 9999 < 0", 1);
        value("(0 - 8192 * 8192 * 32) / (0 - 1) < 0", 1);
        value("(0 - 8192 * 8192 * 32) % (0 - 1) + 5", 5);
        value("1 < 2", 1);
        value("2 < 2", 0);
        value("2 > 2", 0);
        value("3 > 2", 1);
        value("2 = 2", 1);
        value("2 = 3", 0);
        value("not 5", 0);
        value("not 0", 1);
        value("not not 5", 1);
        value("not 1 < 0", 1);
        value("5 and 3", 1);
        value("5 and 0", 0);
        value("5 or 0", 1);
        value("0 or 0", 0);
        value("0 - 1 and 1", 1);
        value("1 or 0 and 0", 1);
        value("(1 or 0) and 0", 0);
        value("not 0 and 0", 0);
        value("(5 or 0) + 7", 8);
        value("1 + 1 < 3 - 0", 1);
        DeckChairs x = Check.told(ONE);
        Check.due("had if it is not told", x.had(0, 0), 8);
        Check.due("units if it is not told", x.about(11), 0);
        DeckChairs y = Check.told("chair a stripes 9;sitter s purse 50 likes 0;");
        Check.due("had is 0 at least", y.had(0, 0), 0);
    }

    private static void hour() {
        DeckChairs x = Check.told(BEACH);
        x.sit(0, 2);
        x.sit(1, 3);
        Check.due("hour() 1", x.hour(), 11);
        Check.due("SEED 1", x.about(5), 30);
        Check.due("hour() 2", x.hour(), 11);
        Check.due("SEED 2", x.about(5), 181);
        // ann can't pay and gets up: bob is alone then; her CHAIR stands in the wind at once.
        Check.due("hour() 3", x.hour(), 4);
        Check.due("SEED 3", x.about(5), 987);
        Check.due("ann's CHAIR", x.sitter(0, 2), -1);
        Check.due("ann's purse", x.sitter(0, 1), 2);
        Check.due("bob HAD", x.sitter(1, 4), 8);
        Check.due("SAND", x.chair(2, 1), 2);
        DeckChairs y = Check.told("chair a stripes 0;chair b stripes 0;chair c stripes 0 shut 0 0 1;"
                + "sitter s purse 7 likes 0;gust 58;draw 0;");
        y.sit(0, 0);
        // The SEED becomes 71, then 798, 397, 460, 91 and 538: its rest 38 is the first one below 58.
        Check.due("he pays his last", y.hour(), 7);
        Check.due("one CHAIR, one SEED", y.about(5), 71);
        Check.due("he gets up", y.hour(), 0);
        Check.due("two CHAIRS, two SEEDS", y.about(5), 397);
        y.hour();
        Check.due("two CHAIRS more", y.about(5), 91);
        Check.due("both are OPEN", y.about(2), 3);
        y.hour();
        Check.due("two CHAIRS once more", y.about(5), 777);
        Check.due("the first one shuts", y.about(2), 2);
        Check.due("its first JOINT", y.chair(0, 4), 1);
        Check.due("its second JOINT", y.chair(0, 5), 2);
        Check.due("its third JOINT", y.chair(0, 6), 3);
        Check.due("a shut one stays as it is", y.chair(2, 6), 1);
        DeckChairs z = Check.told("chair a stripes 0;draw 5;");
        z.hour();
        Check.due("the SEED goes on without gusts", z.about(5), 756);
        Check.due("no gust", z.about(2), 1);
        DeckChairs w = Check.told(ONE + "had hour * 10 + sat;");
        w.sit(0, 0);
        Check.due("hour 0", w.hour(), 0);
        Check.due("hour 1", w.hour(), 11);
        Check.due("hour 2", w.hour(), 22);
    }

    private static void hourLimits() {
        DeckChairs x = Check.told(ONE + "had 99;");
        x.sit(0, 0);
        x.fill(0, 99);
        for (int i = 1; i <= 101; i++) {
            Check.due("hour " + i, x.hour(), 99);
            x.fill(0, 99);
        }
        Check.due("what he HAD", x.sitter(0, 4), 9999);
        Check.due("SAND", x.chair(0, 1), 99);
        Check.due("SAT", x.sitter(0, 3), 101);
        Check.due("he pays all the same", x.hour(), 99);
        Check.due("he HAD 9,999 at most", x.sitter(0, 4), 9999);
        Check.due("takings()", x.takings(), 9999);
    }

    private static void sit() {
        DeckChairs x = Check.told(BEACH);
        Check.due("a shut one", x.sit(0, 1), -1);
        for (int wrong : new int[] {-1, 4, MIN, MAX}) {
            Check.due("sit(0, " + wrong + ")", x.sit(0, wrong), -1);
            Check.due("sit(" + wrong + ", 0)", x.sit(wrong, 0), -1);
        }
        Check.due("sit(3, 0)", x.sit(3, 0), -1);
        Check.due("no ACTS", x.about(6), 0);
        Check.due("sit(0, 2)", x.sit(0, 2), 11);
        Check.due("a taken one", x.sit(1, 2), -1);
        Check.due("who SITS", x.sit(0, 0), -1);
        Check.due("where he SITS", x.sit(0, 2), -1);
        Check.due("next to her", x.sit(1, 3), 2);
        Check.due("one ACT each", x.about(6), 2);
        x.hour();
        x.rise(0);
        x.sit(0, 2);
        Check.due("SAT 0 whenever he sits down", x.sitter(0, 3), 0);
    }

    private static void rise() {
        DeckChairs x = Check.told(BEACH);
        Check.due("who SITS in none", x.rise(0), -1);
        Check.due("rise(-1)", x.rise(-1), -1);
        Check.due("rise(3)", x.rise(3), -1);
        Check.due("rise(MIN)", x.rise(MIN), -1);
        Check.due("rise(MAX)", x.rise(MAX), -1);
        Check.due("no ACT", x.about(6), 0);
        x.sit(0, 2);
        x.hour();
        Check.due("rise(0)", x.rise(0), 2);
        Check.due("an ACT", x.about(6), 3);
        Check.due("in none", x.sitter(0, 2), -1);
        Check.due("SAT in none", x.sitter(0, 3), 0);
        Check.due("nobody there", x.chair(2, 2), -1);
        Check.due("SAND stays", x.chair(2, 1), 1);
    }

    private static void change() {
        DeckChairs x = Check.told(ROUND);
        x.sit(0, 0);
        x.sit(1, 1);
        x.sit(2, 2);
        x.hour();
        Check.due("with himself", x.change(0, 0), -1);
        Check.due("with one who SITS in none", x.change(0, 3), -1);
        Check.due("by one who SITS in none", x.change(3, 0), -1);
        for (int wrong : new int[] {-1, 4, MIN, MAX}) {
            Check.due("change(0, " + wrong + ")", x.change(0, wrong), -1);
            Check.due("change(" + wrong + ", 0)", x.change(wrong, 0), -1);
        }
        Check.due("ACTS", x.about(6), 4);
        Check.due("change(1, 0)", x.change(1, 0), 13);
        Check.due("ACTS", x.about(6), 5);
        Check.due("0 sits", x.sitter(0, 2), 1);
        Check.due("1 sits", x.sitter(1, 2), 0);
        Check.due("0 SAT", x.sitter(0, 3), 0);
        Check.due("1 SAT", x.sitter(1, 3), 0);
        Check.due("2 SAT", x.sitter(2, 3), 1);
    }

    private static void move() {
        DeckChairs x = Check.told("chair a stripes 0;chair b stripes 0 shut 3 0 2;sitter s purse 0 likes 0;");
        Check.due("move 0", x.move(0, 0), 16 + 4);
        Check.due("move 1", x.move(0, 1), 16 + 1);
        Check.due("move 2", x.move(0, 2), 3);
        Check.due("move 3", x.move(0, 3), 16 + 4);
        Check.due("b by 0", x.move(1, 0), 4 + 2);
        Check.due("b by 2", x.move(1, 2), 48 + 4);
        Check.due("b by 1", x.move(1, 1), 48 + 1);
        Check.due("b by 1 again", x.move(1, 1), 48 + 12 + 2);
        Check.due("ACTS", x.about(6), 8);
        Check.due("OPEN", x.about(2), 0);
        for (int wrong : new int[] {-1, 4, MIN, MAX}) {
            Check.due("move(0, " + wrong + ")", x.move(0, wrong), -1);
            Check.due("move(" + wrong + ", 0)", x.move(wrong, 0), -1);
        }
        Check.due("move(2, 0)", x.move(2, 0), -1);
        Check.due("no ACTS", x.about(6), 8);
        DeckChairs y = Check.told(ONE);
        y.sit(0, 0);
        Check.due("where somebody SITS", y.move(0, 0), -1);
        y.rise(0);
        Check.due("an OPEN one that is free", y.move(0, 0), 20);
        Check.due("it is not OPEN then", y.sit(0, 0), -1);
    }

    private static void fill() {
        DeckChairs x = Check.told(BEACH);
        Check.due("fill(0, 1)", x.fill(0, 1), 21);
        Check.due("fill(0, 99)", x.fill(0, 99), 120);
        for (int wrong : new int[] {-1, 0, 100, MIN, MAX}) {
            Check.due("fill(0, " + wrong + ")", x.fill(0, wrong), -1);
        }
        for (int wrong : new int[] {-1, 3, MIN, MAX}) {
            Check.due("fill(" + wrong + ", 1)", x.fill(wrong, 1), -1);
        }
        for (int i = 0; i < 8; i++) {
            x.fill(0, 99);
        }
        Check.due("filled", x.sitter(0, 1), 912);
        Check.due("999 at most", x.fill(0, 99), 999);
        Check.due("there is 999", x.fill(0, 1), -1);
        Check.due("ACTS", x.about(6), 11);
    }

    private static void undoAndRedo() {
        DeckChairs x = Check.told(BEACH);
        Check.due("undo() of nothing", x.undo(), false);
        Check.due("redo() of nothing", x.redo(), false);
        x.sit(0, 2);
        x.hour();
        Check.due("SEED", x.about(5), 181);
        Check.due("undo() of an HOUR", x.undo(), true);
        Check.due("purse", x.sitter(0, 1), 20);
        Check.due("HAD", x.sitter(0, 4), 0);
        Check.due("SAND", x.chair(2, 1), 0);
        Check.due("SAT", x.sitter(0, 3), 0);
        Check.due("SEED", x.about(5), 7);
        Check.due("hour", x.about(4), 0);
        Check.due("redone", x.about(7), 1);
        Check.due("what does nothing keeps REDO", x.sit(0, 2), -1);
        Check.due("redo()", x.redo(), true);
        Check.due("purse", x.sitter(0, 1), 9);
        Check.due("SEED", x.about(5), 181);
        Check.due("redo() of nothing", x.redo(), false);
        x.undo();
        x.undo();
        Check.due("in none", x.sitter(0, 2), -1);
        x.fill(2, 1);
        Check.due("another ACT", x.redo(), false);
        Check.due("undone", x.about(6), 1);
        for (int i = 0; i < 45; i++) {
            x.fill(2, 2);
        }
        Check.due("40 are kept", x.about(6), 40);
        for (int i = 0; i < 40; i++) {
            Check.due("undo() " + i, x.undo(), true);
        }
        Check.due("the oldest are gone", x.undo(), false);
        Check.due("purse behind 40", x.sitter(2, 1), 99 + 1 + 10);
        Check.due("40 to be redone", x.about(7), 40);
        for (int i = 0; i < 40; i++) {
            Check.due("redo() " + i, x.redo(), true);
        }
        Check.due("purse behind all", x.sitter(2, 1), 99 + 1 + 90);
        Check.due("redo() behind all", x.redo(), false);
    }

    private static void will() {
        DeckChairs x = Check.told(BEACH);
        x.sit(0, 2);
        x.sit(1, 3);
        Check.due("will(0, 0)", x.will(0, 0), 0);
        Check.due("will(0, 2)", x.will(0, 2), 18);
        Check.due("will(0, 60)", x.will(0, 60), 18);
        Check.due("will(1, 3)", x.will(1, 3), 8);
        Check.due("will(2, 5)", x.will(2, 5), 0);
        Check.due("nothing is done", x.about(4), 0);
        x.hour();
        Check.due("what he HAD counts", x.will(0, 0), 9);
        for (int wrong : new int[] {-1, 61, MIN, MAX}) {
            Check.due("will(0, " + wrong + ")", x.will(0, wrong), -1);
        }
        for (int wrong : new int[] {-1, 3, MIN, MAX}) {
            Check.due("will(" + wrong + ", 0)", x.will(wrong, 0), -1);
        }
    }

    private static void standing() {
        DeckChairs x = Check.told("chair a stripes 0;chair b stripes 0 shut 1 0 0;chair c stripes 0;"
                + "sitter s purse 14 likes 0;gust 100;");
        x.sit(0, 2);
        Check.due("standing(0)", x.standing(0), 5);
        Check.due("standing(1)", x.standing(1), 4);
        Check.due("standing(2)", x.standing(2), 4);
        Check.due("standing(3)", x.standing(3), 0);
        Check.due("standing(60)", x.standing(60), 0);
        Check.due("nothing is done", x.about(2), 5);
        Check.due("SEED", x.about(5), 0);
        for (int wrong : new int[] {-1, 61, MIN, MAX}) {
            Check.due("standing(" + wrong + ")", x.standing(wrong), -1);
        }
        DeckChairs y = Check.told("chair a stripes 0;chair b stripes 0;gust 39;draw 460;");
        // 91, 538: the second one shuts.
        Check.due("as the SEED tells", y.standing(1), 1);
    }

    private static void out() {
        DeckChairs x = Check.told("chair a stripes 0;chair b stripes 0;chair c stripes 0;"
                + "sitter s purse 98 likes 1;sitter t purse 99 likes 1;sitter u purse 0 likes 0;had likes;gust 100;");
        Check.due("who SITS in none", x.out(0), 0);
        x.sit(0, 0);
        x.sit(1, 1);
        x.sit(2, 2);
        Check.due("behind 99", x.out(0), 99);
        Check.due("behind 100", x.out(1), -1);
        Check.due("never", x.out(2), -1);
        Check.due("nothing is done", x.about(3), 7);
        for (int wrong : new int[] {-1, 3, MIN, MAX}) {
            Check.due("out(" + wrong + ")", x.out(wrong), -1);
        }
    }

    private static void seat() {
        DeckChairs x = Check.told(BEACH);
        Check.due("seat()", x.seat(), 17);
        Check.lies("seat()", x, 0, 2, -1);
        DeckChairs y = Check.told("chair a stripes 0;chair b stripes 0;sitter s purse 0 likes 0;sitter t purse 0 likes 0;"
                + "had 0;");
        Check.due("nothing is had", y.seat(), 0);
        Check.lies("none stands behind all", y, 0, 1);
        DeckChairs z = Check.told("chair a stripes 0 shut 0 0 1;chair b stripes 0;sitter s purse 0 likes 1;"
                + "sitter t purse 0 likes 5;had likes;");
        Check.due("one OPEN CHAIR", z.seat(), 5);
        Check.lies("the other one in none", z, -1, 1);
        DeckChairs w = Check.told(ONE + "chair b stripes 3;had 10 + sat * 5;");
        w.sit(0, 1);
        w.hour();
        Check.due("sat where he SITS now", w.seat(), 15);
        Check.lies("where he SITS", w, 1);
        DeckChairs v = Check.told("chair a stripes 0;chair b stripes 0;chair c stripes 0;sitter s purse 0 likes 0;"
                + "sitter t purse 0 likes 0;sitter u purse 0 likes 0;had alone * 10 + 1;");
        v.sit(2, 1);
        Check.due("just that seating's CHAIRS are taken", v.seat(), 22);
        Check.lies("both ends", v, 0, 2, -1);
        Check.due("nobody is moved", v.about(3), 2);
    }

    private static void toll() {
        DeckChairs x = Check.told(BEACH);
        Check.due("toll(0)", x.toll(0), 4);
        Check.due("toll(1)", x.toll(1), 7);
        Check.due("toll(2)", x.toll(2), 0);
        Check.due("nothing lies there", x.about(12), 0);
        for (int wrong : new int[] {-1, 3, MIN, MAX}) {
            Check.due("toll(" + wrong + ")", x.toll(wrong), -1);
        }
        DeckChairs y = Check.told("chair a stripes 0;chair b stripes 0;sitter s purse 0 likes 0;sitter t purse 0 likes 0;"
                + "had 7 - 7 * alone;");
        Check.due("others have less without him", y.toll(0), -7);
    }

    private static void opening() {
        DeckChairs x = Check.told("chair a stripes 0 shut 1 1 1;chair b stripes 0;chair c stripes 0 shut 3 3 3;"
                + "chair d stripes 0 shut 3 3 0;");
        Check.due("opening(0)", x.opening(0), 2);
        Check.lies("opening(0)", x, 1, 2);
        Check.due("it is OPEN", x.opening(1), 0);
        Check.lies("nothing", x);
        Check.due("opening(2)", x.opening(2), 1);
        Check.lies("opening(2)", x, 3);
        Check.due("opening(3)", x.opening(3), 1);
        Check.lies("opening(3)", x, 0);
        for (int wrong : new int[] {-1, 4, MIN, MAX}) {
            x.opening(0);
            Check.due("opening(" + wrong + ")", x.opening(wrong), -1);
            Check.lies("behind NONE", x);
        }
        for (int joints = 0; joints < 64; joints++) {
            DeckChairs y = Check.told("chair a stripes 0 shut " + joints / 16 + " " + joints / 4 % 4 + " " + joints % 4 + ";");
            int moves = y.opening(0);
            for (int i = 0; i < moves; i++) {
                Check.due("not OPEN before the last MOVE from " + joints, y.about(2), 0);
                y.move(0, y.lies(i));
            }
            Check.due("the MOVES open " + joints, y.about(2), 1);
        }
    }

    private static void trade() {
        DeckChairs x = Check.told(ROUND);
        Check.due("nobody SITS", x.trade(0), -1);
        x.sit(0, 0);
        x.sit(1, 1);
        x.sit(2, 2);
        Check.due("trade(0)", x.trade(0), 0);
        Check.due("trade(1)", x.trade(1), 1);
        Check.due("trade(2)", x.trade(2), 13);
        Check.due("trade(3)", x.trade(3), -1);
        Check.due("trade(-1)", x.trade(-1), -1);
        x.change(0, 1);
        x.change(1, 2);
        Check.due("none is better", x.trade(0), -1);
        Check.due("none is better", x.trade(2), -1);
        DeckChairs y = Check.told("chair a stripes 0;chair b stripes 0;sitter s purse 9 likes 0;sitter t purse 9 likes 0;"
                + "had 5;");
        y.sit(0, 0);
        y.sit(1, 1);
        Check.due("as much is not more", y.trade(0), -1);
        DeckChairs z = Check.told("chair a stripes 0;chair b stripes 9;sitter s purse 50 likes 0;sitter t purse 50 likes 9;"
                + "had likes * (stripes = 0) + sat * 9;");
        z.sit(0, 0);
        z.sit(1, 1);
        Check.due("before an hour", z.trade(2), 9);
        z.hour();
        Check.due("SAT would be 0", z.trade(0), -1);
    }

    private static void ring() {
        DeckChairs x = Check.told(ROUND);
        Check.due("nobody SITS", x.ring(), 0);
        Check.lies("nobody SITS", x, -1, -1, -1, -1);
        x.sit(0, 0);
        x.sit(1, 1);
        x.sit(2, 2);
        Check.due("all three", x.ring(), 3);
        Check.lies("all three", x, 1, 2, 0, -1);
        x.rise(2);
        Check.due("two can't", x.ring(), 0);
        Check.lies("two can't", x, 0, 1, -1, -1);
        DeckChairs y = Check.told("chair a stripes 0;chair b stripes 1;chair c stripes 2;chair d stripes 3;"
                + "sitter s purse 50 likes 0;sitter t purse 50 likes 0;sitter u purse 50 likes 1;sitter v purse 50 likes 1;"
                + "had (likes = 0) * stripes / 2 * 10 + (likes = 1) * (1 - stripes / 2) * 10 + stripes;");
        y.sit(0, 0);
        y.sit(1, 1);
        y.sit(2, 2);
        y.sit(3, 3);
        Check.due("the most who change", y.ring(), 4);
        Check.lies("the least CHAIRS first", y, 2, 3, 0, 1);
        DeckChairs z = Check.told("chair a stripes 0;chair b stripes 9;sitter s purse 50 likes 0;sitter t purse 50 likes 9;"
                + "had (likes = stripes) * 0 + (likes > stripes) + (likes < stripes) + sat;");
        z.sit(0, 0);
        z.sit(1, 1);
        Check.due("both are gladder", z.ring(), 2);
        z.hour();
        Check.due("as much is not more", z.ring(), 0);
    }

    private static void envy() {
        DeckChairs x = Check.told(BEACH);
        Check.due("who SITS in none", x.envy(0), -1);
        x.sit(0, 2);
        x.sit(1, 3);
        Check.due("envy(0)", x.envy(0), 0);
        Check.due("envy(1)", x.envy(1), 5);
        for (int wrong : new int[] {-1, 3, MIN, MAX}) {
            Check.due("envy(" + wrong + ")", x.envy(wrong), -1);
        }
    }

    private static void row() {
        DeckChairs x = Check.told("chair a stripes 0;chair b stripes 0;chair c stripes 0 shut 1 1 1;chair d stripes 0;"
                + "chair e stripes 0;sitter s purse 9 likes 0;");
        Check.due("row(0, 4)", x.row(0, 4), 2);
        Check.due("row(4, 0)", x.row(4, 0), 2);
        Check.due("row(0, 1)", x.row(0, 1), 0);
        Check.due("row(3, 3)", x.row(3, 3), 0);
        Check.due("row(1, 3)", x.row(1, 3), 0);
        x.sit(0, 3);
        Check.due("a taken one", x.row(0, 4), 1);
        for (int wrong : new int[] {-1, 5, MIN, MAX}) {
            Check.due("row(0, " + wrong + ")", x.row(0, wrong), -1);
            Check.due("row(" + wrong + ", 0)", x.row(wrong, 0), -1);
        }
    }

    private static void rivals() {
        DeckChairs x = Check.told(BEACH);
        Check.due("rivals(0, 1)", x.rivals(0, 1), 2);
        Check.lies("rivals(0, 1)", x, 0, 2);
        Check.due("with himself", x.rivals(0, 0), -1);
        Check.lies("behind NONE", x);
        for (int wrong : new int[] {-1, 3, MIN, MAX}) {
            Check.due("rivals(0, " + wrong + ")", x.rivals(0, wrong), -1);
            Check.due("rivals(" + wrong + ", 0)", x.rivals(wrong, 0), -1);
        }
        x.sit(0, 0);
        Check.due("one SITS", x.rivals(0, 1), -1);
        Check.due("the other one SITS", x.rivals(1, 0), -1);
        String two = "sitter s purse 9 likes 0;sitter t purse 9 likes 0;sitter u purse 9 likes 0;";
        DeckChairs y = Check.told("chair a stripes 0;chair b stripes 5;" + two);
        Check.due("three RESTS", y.rivals(0, 1), 3);
        Check.lies("both for one", y, 0, 0);
        y.sit(2, 0);
        Check.due("just one is free", y.rivals(0, 1), 1);
        Check.lies("just one is free", y, 1, 1);
        y.rise(2);
        y.move(0, 0);
        y.move(1, 0);
        Check.due("none is OPEN", y.rivals(0, 1), -1);
        // One would be with the other one, who would be without him.
        DeckChairs z = Check.told("chair a stripes 0;chair b stripes 1;chair c stripes 2;chair d stripes 3;"
                + "sitter s purse 9 likes 0;sitter t purse 9 likes 1;had (likes = alone) * 5 + 1;");
        Check.due("no RESTS", z.rivals(0, 1), 0);
        Check.lies("behind 0", z);
    }

    private static void best() {
        DeckChairs x = Check.told(BEACH);
        Check.due("best(0, 0)", x.best(0, 0), 2);
        Check.due("best(0, 1)", x.best(0, 1), 11);
        x.sit(1, 2);
        Check.due("not a taken one", x.best(0, 0), 0);
        Check.due("how much", x.best(0, 1), 8);
        Check.due("of one who SITS", x.best(1, 0), 0);
        for (int wrong : new int[] {-1, 2, MIN, MAX}) {
            Check.due("best(0, " + wrong + ")", x.best(0, wrong), -1);
        }
        for (int wrong : new int[] {-1, 3, MIN, MAX}) {
            Check.due("best(" + wrong + ", 0)", x.best(wrong, 0), -1);
        }
        DeckChairs y = Check.told("chair a stripes 0 shut 1 1 1;sitter s purse 9 likes 0;");
        Check.due("none", y.best(0, 0), -1);
        Check.due("none", y.best(0, 1), -1);
        DeckChairs z = Check.told("chair a stripes 0;chair b stripes 0;sitter s purse 9 likes 0;had 0;");
        Check.due("of like ones the first", z.best(0, 0), 0);
        Check.due("nothing is had", z.best(0, 1), 0);
    }

    private static void noon() {
        DeckChairs x = Check.told(ONE + "chair b stripes 0 shut 1 1 1;had 50 - (hour - 12) * (hour - 12) + stripes * 0;");
        Check.due("noon(0, 0)", x.noon(0, 0), 12);
        Check.due("a shut one", x.noon(0, 1), 12);
        Check.due("nothing is done", x.about(4), 0);
        for (int wrong : new int[] {-1, 2, MIN, MAX}) {
            Check.due("noon(0, " + wrong + ")", x.noon(0, wrong), -1);
            Check.due("noon(" + wrong + ", 0)", x.noon(wrong, 0), -1);
        }
        Check.due("of like ones the least", Check.told(ONE + "had hour / 3 > 4;").noon(0, 0), 15);
        Check.due("hours up to 99", Check.told(ONE + "had hour - 50;").noon(0, 0), 99);
        Check.due("all alike", Check.told(ONE).noon(0, 0), 0);
        Check.due("99 at most", Check.told(ONE + "had hour;").noon(0, 0), 99);
    }

    private static void lonelyGapCouples() {
        DeckChairs x = Check.told("chair a stripes 0;chair b stripes 0;chair c stripes 0;chair d stripes 0;chair e stripes 0;"
                + "sitter s purse 9 likes 0;sitter t purse 9 likes 0;sitter u purse 9 likes 0;");
        Check.due("lonely(): nobody", x.lonely(), 0);
        Check.due("gap(): all", x.gap(), 5);
        Check.due("couples(): none", x.couples(), 0);
        x.sit(0, 0);
        x.sit(1, 4);
        Check.due("lonely(): both", x.lonely(), 3);
        Check.due("gap(): between", x.gap(), 3);
        x.sit(2, 3);
        Check.due("lonely(): the first one", x.lonely(), 1);
        Check.due("gap(): two", x.gap(), 2);
        Check.due("couples(): one", x.couples(), 1);
        x.rise(0);
        x.sit(0, 2);
        Check.due("lonely(): none", x.lonely(), 0);
        Check.due("couples(): two", x.couples(), 2);
        x.move(0, 0);
        Check.due("gap(): a shut one is none", x.gap(), 1);
        x.move(1, 0);
        Check.due("gap(): none", x.gap(), 0);
    }

    private static void broke() {
        DeckChairs x = Check.told("chair a stripes 0;chair b stripes 0;chair c stripes 0;sitter s purse 5 likes 0;"
                + "sitter t purse 4 likes 0;sitter u purse 6 likes 0;");
        Check.due("nobody SITS", x.broke(), 0);
        x.sit(0, 0);
        Check.due("alone it is 7", x.broke(), 1);
        x.sit(1, 1);
        Check.due("with somebody it is 5", x.broke(), 2);
        x.sit(2, 2);
        Check.due("broke()", x.broke(), 2);
    }

    private static void throneVeteranRichest() {
        DeckChairs x = Check.told("chair a stripes 0;chair b stripes 0;chair c stripes 0;sitter s purse 50 likes 0;"
                + "sitter t purse 50 likes 0;sitter u purse 49 likes 0;");
        Check.due("throne(): of like ones the first", x.throne(), 0);
        Check.due("veteran(): nobody SITS", x.veteran(), -1);
        Check.due("richest(): of like ones the first", x.richest(), 0);
        x.sit(1, 2);
        Check.due("veteran(): who SITS", x.veteran(), 1);
        x.hour();
        Check.due("throne()", x.throne(), 2);
        x.sit(0, 0);
        Check.due("veteran()", x.veteran(), 1);
        x.rise(1);
        Check.due("veteran(): he alone", x.veteran(), 0);
        x.sit(1, 2);
        Check.due("veteran(): of like ones the first", x.veteran(), 0);
        x.fill(2, 2);
        Check.due("richest()", x.richest(), 2);
    }

    private static void takingsAndLaw() {
        DeckChairs x = Check.told("chair a stripes 0;chair b stripes 0;sitter s purse 50 likes 3;sitter t purse 50 likes 5;"
                + "had likes + sand * 2 - (sat = 1);");
        Check.due("takings() at first", x.takings(), 0);
        Check.due("law(0), nobody SITS", x.law(0), 0);
        x.sit(0, 0);
        x.sit(1, 1);
        Check.due("law(0)", x.law(0), 8);
        Check.due("law(10)", x.law(10), 48);
        Check.due("law(99)", x.law(99), 198);
        for (int wrong : new int[] {-1, 100, MIN, MAX}) {
            Check.due("law(" + wrong + ")", x.law(wrong), -1);
        }
        x.hour();
        Check.due("takings()", x.takings(), 8);
        Check.due("law(0), each by what is so now", x.law(0), 6);
        x.rise(0);
        Check.due("takings() of who got up, too", x.takings(), 8);
    }

    private static void worst() {
        DeckChairs x = new DeckChairs();
        int joints = x.worst(0);
        int moves = x.worst(1);
        Check.due("worst(2)", x.worst(2), -1);
        Check.due("worst(-1)", x.worst(-1), -1);
        int most = -1;
        int first = -1;
        for (int n = 0; n < 64; n++) {
            DeckChairs y = Check.told("chair a stripes 0 shut " + n / 16 + " " + n / 4 % 4 + " " + n % 4 + ";");
            if (y.opening(0) > most) {
                most = y.opening(0);
                first = n;
            }
        }
        Check.due("worst(0)", joints, first);
        Check.due("worst(1)", moves, most);
        Check.due("worst(1) as a number", moves, WORST_MOVES);
        Check.due("worst(0) as a number", joints, WORST_JOINTS);
    }

    private static final int WORST_JOINTS = 9;
    private static final int WORST_MOVES = 6;

    private static void odds(int gust, int n, int upper, int lower) {
        DeckChairs x = Check.told("gust " + gust + ";");
        Check.due("upper part, gust " + gust + ", " + n + " hours", x.odds(n, 0), upper);
        Check.due("lower part, gust " + gust + ", " + n + " hours", x.odds(n, 1), lower);
    }

    private static void odds() {
        odds(30, 1, 7, 10);
        odds(30, 2, 49, 100);
        odds(30, 4, 2401, 10000);
        odds(50, 4, 1, 16);
        odds(1, 4, 96059601, 100000000);
        odds(100, 1, 0, 1);
        odds(100, 4, 0, 1);
        odds(100, 0, 1, 1);
        odds(0, 3, 1, 1);
        odds(75, 3, 1, 64);
        DeckChairs x = Check.told("gust 30;");
        for (int wrong : new int[] {-1, 5, MIN, MAX}) {
            Check.due("odds(" + wrong + ", 0)", x.odds(wrong, 0), -1);
        }
        for (int wrong : new int[] {-1, 2, MIN, MAX}) {
            Check.due("odds(1, " + wrong + ")", x.odds(1, wrong), -1);
        }
    }

    private static void lies() {
        DeckChairs x = Check.told(BEACH);
        Check.due("nothing at first", x.lies(0), -2);
        x.seat();
        Check.due("lies(2)", x.lies(2), -1);
        for (int wrong : new int[] {-1, 3, MIN, MAX}) {
            Check.due("lies(" + wrong + ")", x.lies(wrong), -2);
        }
        x.sit(0, 0);
        x.undo();
        x.toll(0);
        Check.due("other calls leave it", x.lies(1), 2);
    }

    private static void seenAndUntell() {
        DeckChairs x = Check.told("chair a stripes 0 shut 1 1 1;");
        Check.due("no SITTERS", x.seen(0, 0, true), -1);
        Check.tell(x, "chair a stripes 0 shut 1 1 1;sitter s purse 0 likes 0;");
        for (int wrong : new int[] {-1, 1, MIN, MAX}) {
            Check.due("seen(" + wrong + ", 0, true)", x.seen(wrong, 0, true), -1);
        }
        for (int wrong : new int[] {-1, 100, MIN, MAX}) {
            Check.due("seen(0, " + wrong + ", true)", x.seen(0, wrong, true), -1);
        }
        Check.due("untell(0) of none", x.untell(0), false);
        for (int i = 0; i < 30; i++) {
            Check.due("seen " + i, x.seen(0, i == 0 ? 99 : 0, true), i);
        }
        Check.due("there are 30", x.seen(0, 0, true), -1);
        Check.due("about(8)", x.about(8), 30);
        for (int wrong : new int[] {-1, 30, MIN, MAX}) {
            Check.due("untell(" + wrong + ")", x.untell(wrong), false);
        }
        Check.due("none fits", x.fits(0), 0);
        Check.due("untell(0)", x.untell(0), true);
        Check.due("it is so already", x.untell(0), false);
        Check.due("all fit", x.fits(0), 31);
        Check.due("it stays SEEN", x.about(8), 30);
        Check.due("there are 30 still", x.seen(0, 0, true), -1);
    }

    private static void later() {
        DeckChairs x = new DeckChairs();
        Check.due("later(0)", x.later(0), 0);
        for (int wrong : new int[] {-1, 1001, MIN, MAX}) {
            Check.due("later(" + wrong + ")", x.later(wrong), -1);
        }
        for (int i = 1; i <= 99; i++) {
            Check.due("later " + i, x.later(1000), 1000 * i);
        }
        Check.due("later(999)", x.later(999), 99999);
        Check.due("above 100,000", x.later(2), -1);
        Check.due("about(9)", x.about(9), 99999);
        Check.due("later(1)", x.later(1), 100000);
        Check.due("later(0)", x.later(0), 100000);
    }

    private static void fitsAndSure() {
        DeckChairs x = Check.told("chair a stripes 3;chair b stripes 0 shut 1 1 1;sitter s purse 9 likes 9;"
                + "sitter t purse 9 likes 1;");
        Check.due("nothing is SEEN", x.fits(0), 31);
        Check.due("sure(0, 0)", x.sure(0, 0), 0);
        Check.due("sure(1, 0)", x.sure(1, 0), 30);
        x.later(5);
        // In CHAIR a it would be 4 and the liking, in b 7 and the liking.
        Check.due("seen", x.seen(0, 10, true), 0);
        x.later(5);
        x.seen(1, 18, false);
        x.later(5);
        x.untell(0);
        Check.due("before all", x.fits(4), 31);
        Check.due("at 5", x.fits(5), 25);
        Check.due("at 9", x.sure(0, 9), 6);
        Check.due("at 10", x.fits(10), 5);
        Check.due("the least at 10", x.sure(0, 10), 6);
        Check.due("the greatest at 10", x.sure(1, 10), 10);
        Check.due("at 14", x.fits(14), 5);
        Check.due("at 15", x.fits(15), 11);
        Check.due("the greatest at 15", x.sure(1, 15), 10);
        Check.due("at the end", x.fits(MAX), 11);
        Check.due("at the beginning", x.fits(MIN), 31);
        Check.due("sure(2, 0)", x.sure(2, 0), -1);
        Check.due("sure(-1, 0)", x.sure(-1, 0), -1);
        x.sit(0, 0);
        x.hour();
        Check.due("what was told counts, not what is", x.fits(15), 11);
        x.seen(1, 99, true);
        Check.due("none fits", x.fits(15), 0);
        Check.due("sure(1) if none fits", x.sure(1, 15), -1);
        Check.due("sure() if none fits", x.sure(0, 15), -1);
        DeckChairs y = Check.told("chair a stripes 3;");
        Check.due("fits() without SITTERS", y.fits(0), 0);
        Check.due("sure() without SITTERS", y.sure(0, 0), -1);
        Check.due("ask() without SITTERS", y.ask(0, 0), -1);
        DeckChairs z = Check.told("chair a stripes 3;chair b stripes 0;sitter s purse 9 likes 9;"
                + "had alone * 10 + sat + sand + hour + likes;");
        z.sit(0, 1);
        z.hour();
        z.seen(0, 39, true);
        Check.due("nobody else there, hour 0", z.sure(0, 0), 29);
        DeckChairs w = Check.told("chair a stripes 0;sitter s purse 9 likes 9;had 5 - likes;");
        w.seen(0, 5, true);
        Check.due("just liking 0 fits", w.fits(0), 1);
        Check.due("the least is 0", w.sure(0, 0), 0);
        Check.due("the greatest is 0", w.sure(1, 0), 0);
        Check.due("a SEEN that is not yet", w.untell(1), false);
    }

    private static void ask() {
        DeckChairs x = Check.told("chair a stripes 3;chair b stripes 2;chair c stripes 2;sitter s purse 9 likes 9;"
                + "had likes / stripes;");
        Check.due("ask(0, 0)", x.ask(0, 0), 1);
        Check.due("ask(1, 0)", x.ask(1, 0), 2);
        Check.due("ask(2, 0)", x.ask(2, 0), -1);
        Check.due("ask(-1, 0)", x.ask(-1, 0), -1);
        x.later(3);
        x.seen(0, 1, false);
        Check.due("three are left", x.ask(1, 3), 2);
        x.seen(1, 1, true);
        Check.due("one is left", x.ask(0, 3), 0);
        Check.due("one is left", x.ask(1, 3), 1);
        Check.due("as known before", x.ask(0, 2), 1);
        x.seen(0, 99, true);
        Check.due("none fits", x.ask(0, 3), -1);
        Check.due("none fits", x.ask(1, 3), -1);
        DeckChairs y = Check.told("sitter s purse 9 likes 9;");
        Check.due("no CHAIRS", y.ask(0, 0), -1);
        Check.due("no CHAIRS", y.ask(1, 0), -1);
        Check.due("all fit", y.fits(0), 31);
    }

    private static void imageAndBack() {
        DeckChairs x = Check.told(BEACH);
        for (int wrong : new int[] {-1, 3, MIN, MAX}) {
            Check.due("image(" + wrong + ")", x.image(wrong), -1);
            Check.due("back(" + wrong + ")", x.back(wrong), -1);
        }
        Check.due("nothing was kept", x.back(0), -1);
        x.sit(0, 2);
        x.hour();
        x.move(1, 2);
        Check.due("image(2)", x.image(2), 1);
        Check.due("no ACT", x.about(6), 3);
        x.rise(0);
        x.fill(0, 50);
        x.hour();
        x.move(1, 1);
        x.undo();
        x.seat();
        Check.due("back(2)", x.back(2), 1);
        Check.due("JOINTS", x.opening(1), 1);
        Check.due("SAND", x.chair(2, 1), 1);
        Check.due("who SITS where", x.chair(2, 2), 0);
        Check.due("how long", x.sitter(0, 3), 1);
        Check.due("purse", x.sitter(0, 1), 9);
        Check.due("HAD", x.sitter(0, 4), 11);
        Check.due("hour", x.about(4), 1);
        Check.due("SEED", x.about(5), 181);
        Check.due("no ACTS to be undone", x.undo(), false);
        Check.due("no ACTS to be redone", x.redo(), false);
        x.hour();
        Check.due("it is kept still", x.back(2), 1);
        Check.due("another BOX", x.back(1), -1);
        Check.due("image(0)", x.image(0), 1);
        Check.due("image(1)", x.image(1), 1);
        x.hour();
        Check.due("image(1) anew", x.image(1), 2);
        Check.due("back(0)", x.back(0), 1);
        Check.due("back(1)", x.back(1), 2);
        Check.due("back(2) stays", x.back(2), 1);
        Check.tell(x, BEACH);
        for (int box = 0; box < 3; box++) {
            Check.due("a new BEACH empties BOX " + box, x.back(box), -1);
        }
    }

    private static void about() {
        DeckChairs x = Check.told(BEACH);
        x.sit(0, 2);
        x.sit(1, 3);
        x.hour();
        x.fill(0, 1);
        x.undo();
        x.seen(0, 1, true);
        x.later(7);
        x.seat();
        x.feed(0, 0, 0, 0, 0);
        int[] want = {3, 4, 13, 12, 1, 30, 3, 1, 1, 7, 20, 0, 3, 30};
        for (int what = 0; what < want.length; what++) {
            Check.due("about(" + what + ")", x.about(what), want[what]);
        }
        for (int wrong : new int[] {-1, 14, MIN, MAX}) {
            Check.due("about(" + wrong + ")", x.about(wrong), -1);
        }
        DeckChairs y = Check.told("had likes * 2 + (10 - stripes) * (likes < 5) + sat;");
        Check.due("units", y.about(11), 9);
    }

    /** As many CHAIRS and SITTERS as can be, so that each row inside is full. */
    private static void fullBeach() {
        DeckChairs x = Check.told("chair a stripes 0;chair b stripes 1;chair z stripes 2;chair d stripes 3;chair e stripes 4;"
                + "sitter p purse 90 likes 0;sitter q purse 91 likes 1;sitter r purse 92 likes 2;sitter s purse 93 likes 3;"
                + "sitter zz purse 94 likes 4;had (likes = stripes) * 10 + 1;gust 100;");
        Check.due("seat()", x.seat(), 55);
        Check.lies("each in his own", x, 0, 1, 2, 3, 4);
        Check.due("toll(4)", x.toll(4), 0);
        Check.due("gap()", x.gap(), 5);
        Check.due("row(0, 4)", x.row(0, 4), 3);
        for (int i = 0; i < 5; i++) {
            Check.due("sit " + i, x.sit(i, (i + 1) % 5), 1);
        }
        Check.due("OPEN and taken", x.about(2) + 100 * x.about(3), 3131);
        Check.due("trade(2)", x.trade(2), 15);
        Check.due("trade(0)", x.trade(0), 0);
        Check.due("trade(1)", x.trade(1), 1);
        Check.due("ring()", x.ring(), 5);
        Check.lies("ring()", x, 0, 1, 2, 3, 4);
        Check.due("envy(4)", x.envy(4), 16);
        Check.due("best(4, 0)", x.best(4, 0), -1);
        Check.due("hour()", x.hour(), 5);
        Check.due("all stay OPEN", x.about(2), 31);
        Check.due("lonely()", x.lonely(), 0);
        Check.due("couples()", x.couples(), 4);
        Check.due("broke()", x.broke(), 0);
        Check.due("throne()", x.throne(), 0);
        Check.due("veteran()", x.veteran(), 0);
        Check.due("richest()", x.richest(), 4);
        Check.due("takings()", x.takings(), 5);
        Check.due("law(7)", x.law(7), 5);
        Check.due("change(3, 4)", x.change(3, 4), 15);
        Check.due("chair(4, 2)", x.chair(4, 2), 4);
        Check.due("chair(0, 2)", x.chair(0, 2), 3);
        Check.due("will(4, 2)", x.will(4, 2), 23);
        Check.due("out(4)", x.out(4), 9);
        Check.due("rise(4)", x.rise(4), 4);
        Check.due("rise(3)", x.rise(3), 0);
        Check.due("rivals(3, 4)", x.rivals(3, 4), 2);
        Check.lies("both are free", x, 0, 4);
        Check.due("standing(1)", x.standing(1), 14);
        Check.due("seen(4, 11, true)", x.seen(4, 11, true), 0);
        Check.due("sure(0, 0)", x.sure(0, 0), 4);
        Check.due("ask(0, 0)", x.ask(0, 0), 0);
        Check.due("noon(4, 4)", x.noon(4, 4), 0);
        Check.due("opening(4)", x.opening(4), 0);
        Check.due("move(4, 3)", x.move(4, 3), 21);
        Check.due("undo()", x.undo(), true);
        Check.due("fill(4, 9)", x.fill(4, 9), 102);
        DeckChairs y = Check.told("chair a stripes 0;chair b stripes 0;chair c stripes 0;chair d stripes 0;chair e stripes 0;"
                + "sitter p purse 9 likes 1;sitter q purse 9 likes 2;sitter r purse 9 likes 3;"
                + "had alone * 20 + likes;");
        // At the ends and in the middle all are alone; two alone have as much as they may.
        Check.due("three alone", y.seat(), 66);
        Check.lies("three alone", y, 0, 2, 4);
        Check.due("toll(1)", y.toll(1), 0);
        DeckChairs z = Check.told("chair a stripes 0;chair b stripes 0;sitter p purse 9 likes 1;sitter q purse 9 likes 9;"
                + "had 5 + alone * 2 + likes;");
        Check.due("both side by side", z.seat(), 20);
        Check.due("toll(0)", z.toll(0), 2);
        Check.due("toll(1)", z.toll(1), 2);
    }
}
