/** What every call answers on an empty BEACH, on CHAIRS without SITTERS, on SITTERS without CHAIRS. All promises. */
public final class EmptyTest {
    private EmptyTest() {
    }

    public static void main(String[] args) {
        emptyBeach("a new object", x -> { });
        emptyBeach("an empty text", x -> x.beach());
        emptyBeach("blanks", x -> Check.tell(x, "  \n\n  "));
        emptyBeach("an empty text behind a full one", x -> {
            RefusedTest.rich(x);
            x.end(0);
            x.beach();
        });
        chairsAlone();
        sittersAlone();
        shutChairs();
        Check.end("EmptyTest");
    }

    private static void due(String on, Twins.Calls before, String call, Twins.Call what, long want) {
        Check.due(on + ": " + call, what.on(Twins.made(before)), want);
    }

    private static void emptyBeach(String on, Twins.Calls before) {
        for (int what = 0; what <= 13; what++) {
            int w = what;
            int time = what == 9 ? Twins.made(before).about(9) : 0;
            due(on, before, "about(" + what + ")", x -> x.about(w), time);
        }
        due(on, before, "fault(0)", x -> x.fault(0), 0);
        due(on, before, "fault(1)", x -> x.fault(1), -1);
        due(on, before, "hour()", x -> x.hour(), 0);
        due(on, before, "the hour behind hour()", x -> x.hour() + x.about(4), 1);
        due(on, before, "the SEED behind hour()", x -> x.hour() + x.about(5), 0);
        due(on, before, "undo() of hour()", x -> x.hour() == 0 && x.undo() ? 1 : 0, 1);
        noSitters(on, before);
        noChairs(on, before);
        due(on, before, "standing(60)", x -> x.standing(60), 0);
        due(on, before, "standing(61)", x -> x.standing(61), -1);
        due(on, before, "image(0)", x -> x.image(0), 0);
        due(on, before, "back(0)", x -> x.back(0), -1);
        due(on, before, "later(1)", x -> x.later(1) - x.about(9), 0);
        due(on, before, "law(0)", x -> x.law(0), 0);
        due(on, before, "law(100)", x -> x.law(100), -1);
        due(on, before, "worst(0)", x -> x.worst(0), 9);
        due(on, before, "worst(1)", x -> x.worst(1), 6);
        due(on, before, "odds(4, 0)", x -> x.odds(4, 0), 1);
        due(on, before, "odds(4, 1)", x -> x.odds(4, 1), 1);
        due(on, before, "end(1)", x -> x.end(1), -1);
        due(on, before, "beach()", x -> x.beach(), 0);
    }

    /** Whatever names a SITTER, or counts them. */
    private static void noSitters(String on, Twins.Calls before) {
        for (int s = -1; s <= 1; s++) {
            int n = s;
            due(on, before, "sitter(" + s + ", 0)", x -> x.sitter(n, 0), -2);
            due(on, before, "had(" + s + ", 0)", x -> x.had(n, 0), -1);
            due(on, before, "sit(" + s + ", 0)", x -> x.sit(n, 0), -1);
            due(on, before, "rise(" + s + ")", x -> x.rise(n), -1);
            due(on, before, "change(" + s + ", 1)", x -> x.change(n, 1), -1);
            due(on, before, "fill(" + s + ", 1)", x -> x.fill(n, 1), -1);
            due(on, before, "will(" + s + ", 0)", x -> x.will(n, 0), -1);
            due(on, before, "out(" + s + ")", x -> x.out(n), -1);
            due(on, before, "toll(" + s + ")", x -> x.toll(n), -1);
            due(on, before, "envy(" + s + ")", x -> x.envy(n), -1);
            due(on, before, "rivals(" + s + ", 1)", x -> x.rivals(n, 1), -1);
            due(on, before, "best(" + s + ", 0)", x -> x.best(n, 0), -1);
            due(on, before, "best(" + s + ", 1)", x -> x.best(n, 1), -1);
            due(on, before, "noon(" + s + ", 0)", x -> x.noon(n, 0), -1);
            due(on, before, "seen(" + s + ", 0, true)", x -> x.seen(n, 0, true), -1);
            due(on, before, "untell(" + s + ")", x -> x.untell(n) ? 1 : 0, 0);
            due(on, before, "fits(" + s + ")", x -> x.fits(n), 0);
            due(on, before, "sure(0, " + s + ")", x -> x.sure(0, n), -1);
            due(on, before, "sure(1, " + s + ")", x -> x.sure(1, n), -1);
            due(on, before, "ask(0, " + s + ")", x -> x.ask(0, n), -1);
            due(on, before, "ask(1, " + s + ")", x -> x.ask(1, n), -1);
            due(on, before, "trade(" + s + ")", x -> x.trade(n), -1);
        }
        due(on, before, "seat()", x -> x.seat(), 0);
        due(on, before, "what lies there behind seat()", x -> x.seat() + x.about(12), 0);
        due(on, before, "ring()", x -> x.ring(), 0);
        due(on, before, "what lies there behind ring()", x -> x.ring() + x.about(12), 0);
        due(on, before, "lies(0) behind ring()", x -> x.ring() + x.lies(0), -2);
        due(on, before, "lonely()", x -> x.lonely(), 0);
        due(on, before, "broke()", x -> x.broke(), 0);
        due(on, before, "couples()", x -> x.couples(), 0);
        due(on, before, "veteran()", x -> x.veteran(), -1);
        due(on, before, "richest()", x -> x.richest(), -1);
        due(on, before, "takings()", x -> x.takings(), 0);
        due(on, before, "law(99)", x -> x.law(99), 0);
    }

    /** Whatever names a CHAIR, or counts them. */
    private static void noChairs(String on, Twins.Calls before) {
        for (int c = -1; c <= 1; c++) {
            int n = c;
            due(on, before, "chair(" + c + ", 0)", x -> x.chair(n, 0), -2);
            due(on, before, "had(0, " + c + ")", x -> x.had(0, n), -1);
            due(on, before, "sit(0, " + c + ")", x -> x.sit(0, n), -1);
            due(on, before, "move(" + c + ", 0)", x -> x.move(n, 0), -1);
            due(on, before, "opening(" + c + ")", x -> x.opening(n), -1);
            due(on, before, "row(" + c + ", " + c + ")", x -> x.row(n, n), -1);
            due(on, before, "noon(0, " + c + ")", x -> x.noon(0, n), -1);
            due(on, before, "seen(" + c + ", 0, true)", x -> x.seen(n, 0, true), -1);
        }
        due(on, before, "gap()", x -> x.gap(), 0);
        due(on, before, "throne()", x -> x.throne(), -1);
        due(on, before, "rivals(0, 1)", x -> x.rivals(0, 1), -1);
        due(on, before, "best(0, 0)", x -> x.best(0, 0), -1);
        due(on, before, "standing(0)", x -> x.standing(0), 0);
        due(on, before, "couples()", x -> x.couples(), 0);
    }

    private static void chairsAlone() {
        String on = "CHAIRS alone";
        Twins.Calls before = x -> Check.tell(x, "chair a stripes 3;chair b stripes 4 shut 1 0 0;gust 100;draw 1;");
        noSitters(on, before);
        due(on, before, "beach()", x -> Check.tell(x, "chair a stripes 3;"), 0);
        due(on, before, "about(0)", x -> x.about(0), 0);
        due(on, before, "about(1)", x -> x.about(1), 2);
        due(on, before, "chair(0, 0)", x -> x.chair(0, 0), 3);
        due(on, before, "chair(0, 2)", x -> x.chair(0, 2), -1);
        due(on, before, "gap()", x -> x.gap(), 1);
        due(on, before, "throne()", x -> x.throne(), 0);
        due(on, before, "hour()", x -> x.hour(), 0);
        due(on, before, "the SEED behind hour()", x -> x.hour() + x.about(5), 208);
        due(on, before, "OPEN behind hour()", x -> x.hour() + x.about(2), 0);
        due(on, before, "standing(0)", x -> x.standing(0), 1);
        due(on, before, "standing(1)", x -> x.standing(1), 0);
        due(on, before, "move(1, 3)", x -> x.move(1, 3), 37);
        due(on, before, "row(0, 1)", x -> x.row(0, 1), 0);
    }

    private static void sittersAlone() {
        String on = "SITTERS alone";
        Twins.Calls before = x -> Check.tell(x, "sitter s purse 3 likes 4;sitter t purse 5 likes 6;gust 100;draw 1;");
        noChairs(on, before);
        due(on, before, "about(0)", x -> x.about(0), 2);
        due(on, before, "sitter(1, 2)", x -> x.sitter(1, 2), -1);
        due(on, before, "hour()", x -> x.hour(), 0);
        due(on, before, "the SEED behind hour()", x -> x.hour() + x.about(5), 1);
        due(on, before, "rise(0)", x -> x.rise(0), -1);
        due(on, before, "change(0, 1)", x -> x.change(0, 1), -1);
        due(on, before, "fill(0, 1)", x -> x.fill(0, 1), 4);
        due(on, before, "will(1, 60)", x -> x.will(1, 60), 0);
        due(on, before, "out(1)", x -> x.out(1), 0);
        due(on, before, "seat()", x -> x.seat(), 0);
        due(on, before, "toll(1)", x -> x.toll(1), 0);
        due(on, before, "trade(0)", x -> x.trade(0), -1);
        due(on, before, "ring()", x -> x.ring(), 0);
        due(on, before, "envy(0)", x -> x.envy(0), -1);
        due(on, before, "lonely()", x -> x.lonely(), 0);
        due(on, before, "broke()", x -> x.broke(), 0);
        due(on, before, "veteran()", x -> x.veteran(), -1);
        due(on, before, "richest()", x -> x.richest(), 1);
        due(on, before, "takings()", x -> x.takings(), 0);
        due(on, before, "fits(0)", x -> x.fits(0), 31);
        due(on, before, "ask(0, 0)", x -> x.ask(0, 0), -1);
        DeckChairs y = Twins.made(before);
        y.seat();
        Check.lies("seat() of SITTERS alone", y, -1, -1);
        y.ring();
        Check.lies("ring() of SITTERS alone", y, -1, -1);
    }

    private static void shutChairs() {
        DeckChairs x = Check.told("chair a stripes 0 shut 1 0 0;chair b stripes 0 shut 0 0 3;sitter s purse 9 likes 0;"
                + "sitter t purse 9 likes 0;gust 100;draw 8;");
        Check.due("OPEN ones", x.about(2), 0);
        Check.due("sit(0, 0)", x.sit(0, 0), -1);
        Check.due("best(0, 0)", x.best(0, 0), -1);
        Check.due("rivals(0, 1)", x.rivals(0, 1), -1);
        Check.due("gap()", x.gap(), 0);
        Check.due("seat()", x.seat(), 0);
        Check.lies("seat()", x, -1, -1);
        Check.due("standing(60)", x.standing(60), 0);
        Check.due("hour()", x.hour(), 0);
        Check.due("no SEED is drawn", x.about(5), 8);
        Check.due("had(0, 0)", x.had(0, 0), 7);
        Check.due("noon(0, 0)", x.noon(0, 0), 0);
        Check.due("seen(0, 7, true)", x.seen(0, 7, true), 0);
        Check.due("ask(0, 0)", x.ask(0, 0), 0);
    }
}
