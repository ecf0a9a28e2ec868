/** Promises 17 to 50 of the document, sentence by sentence. */
public final class SentencesOfPromises17To50Test {
    private static final int MIN = Integer.MIN_VALUE;
    private static final int MAX = Integer.MAX_VALUE;
    private static final Twins.Calls RICH = RefusedTest::rich;
    /** Numbers that no CHAIR and no SITTER has, and no call takes for what. */
    private static final int[] NO_NUMBERS = {MIN, -100, -2, -1, 5, 6, 1000, MAX};
    private static final String CHAIRS = "chair a stripes 0;chair b stripes 1;chair c stripes 2;chair d stripes 3;chair e stripes 4;";
    private static final String SITTERS = "sitter p purse 50 likes 0;sitter q purse 50 likes 1;sitter r purse 50 likes 2;"
            + "sitter s purse 50 likes 3;sitter t purse 50 likes 4;";

    private SentencesOfPromises17To50Test() {
    }

    public static void main(String[] args) throws Exception {
        willStandingOut();
        seatAndToll();
        openingAndTrade();
        ringEnvyRow();
        rivals();
        bestAndNoon();
        lonelyGapBroke();
        throneCouplesVeteran();
        richestTakingsLaw();
        worstOddsLies();
        seenUntellLater();
        fitsSureAsk();
        imageAndBack();
        about();
        Document.quotedFrom("## Promise 17:", "## Not promised");
        Check.end("SentencesOfPromises17To50Test");
    }

    // ---- HOURS that are thought of ----

    private static void willStandingOut() {
        Document.says("`int will(int sitter, int n)`: What a SITTER HAD behind n HOURS (0 .. 60); gusts do not matter;", () -> {
            for (int gust : new int[] {0, 50, 100}) {
                DeckChairs x = Check.told(CHAIRS + SITTERS + "had likes - 3;gust " + gust + ";");
                x.sit(4, 1);
                x.sit(3, 2);
                x.hour();
                for (int n = 0; n <= 60; n++) {
                    Check.due("will(4, " + n + ")", x.will(4, n), Math.min(50, n + 1));
                    Check.due("will(3, " + n + ")", x.will(3, n), 0);
                    Check.due("will(0, " + n + ")", x.will(0, n), 0);
                }
            }
        });
        Document.says("NONE if one can't be.", () -> {
            DeckChairs x = Check.told(CHAIRS + SITTERS);
            for (int wrong : NO_NUMBERS) {
                Check.due("will(" + wrong + ", 1)", x.will(wrong, 1), -1);
            }
            for (int wrong : new int[] {MIN, -1, 61, MAX}) {
                Check.due("will(0, " + wrong + ")", x.will(0, wrong), -1);
            }
        });
        Document.says("`int standing(int n)`: CHAIRS that are OPEN behind n HOURS (0 .. 60), as bits; gusts as the SEED tells;", () -> {
            String text = CHAIRS.replace("stripes 1;", "stripes 1 shut 1 0 0;") + SITTERS + "had 7;gust 15;draw 321;";
            DeckChairs x = Check.told(text);
            DeckChairs y = Check.told(text);
            x.sit(0, 4);
            y.sit(0, 4);
            for (int n = 0; n <= 60; n++) {
                int open = 0;
                for (int c = 0; c < 5; c++) {
                    open |= y.chair(c, 3) << c;
                }
                Check.due("standing(" + n + ")", x.standing(n), open);
                y.hour();
            }
            Check.due("all but the shut one at first", x.standing(0), 29);
            // 48, 647, 710: rests 48, 47, 10 for a, c, d; e is taken.
            Check.due("d shuts", x.standing(1), 21);
        });
        Document.says("NONE for another n.", () -> {
            DeckChairs x = Check.told(CHAIRS);
            for (int wrong : new int[] {MIN, -1, 61, MAX}) {
                Check.due("standing(" + wrong + ")", x.standing(wrong), -1);
            }
        });
        Document.says("`int out(int sitter)`: OUT (0 .. 99);", () -> {
            DeckChairs x = Check.told(CHAIRS + SITTERS + "had 10 - likes * 3;");
            x.sit(0, 0);
            x.sit(2, 4);
            x.fill(3, 48);
            x.sit(3, 2);
            Check.due("50 by 10", x.out(0), 6);
            Check.due("in none", x.out(1), 0);
            Check.due("50 by 4", x.out(2), 13);
            Check.due("98 by 1", x.out(3), 99);
        });
        Document.says("NONE if not in these, or there is none such.", () -> {
            DeckChairs x = Check.told(CHAIRS + SITTERS + "had 10 - likes * 3;");
            x.fill(3, 49);
            x.sit(3, 2);
            x.sit(4, 0);
            Check.due("99 by 1", x.out(3), -1);
            Check.due("50 by 0", x.out(4), -1);
            for (int wrong : NO_NUMBERS) {
                Check.due("out(" + wrong + ")", x.out(wrong), -1);
            }
        });
    }

    // ---- seatings ----

    private static void seatAndToll() {
        Document.says("`int seat()`: SEAT: what is HAD together. The CHAIR of each SITTER (-1: none) lies there then.", () -> {
            DeckChairs x = Check.told(CHAIRS + SITTERS + "had (stripes + likes = 4) * 10;");
            Check.due("each in the one that is for him", x.seat(), 50);
            Check.lies("each in the one that is for him", x, 4, 3, 2, 1, 0);
            x.move(2, 0);
            Check.due("one of them is shut", x.seat(), 40);
            Check.lies("one of them is shut", x, 4, 3, -1, 1, 0);
            Check.due("nobody", Check.told(CHAIRS).seat(), 0);
            DeckChairs y = Check.told(SITTERS);
            Check.due("no CHAIRS", y.seat(), 0);
            Check.lies("no CHAIRS", y, -1, -1, -1, -1, -1);
        });
        Document.says("`int toll(int sitter)`: TOLL;", () -> {
            DeckChairs x = Check.told("chair a stripes 0;chair b stripes 9;" + SITTERS + "had (9 - stripes) / 3 * likes;");
            // t has 12 in a; s would have 9 there; b is worth nothing to anyone.
            Check.due("toll(4)", x.toll(4), 9);
            Check.due("toll(3)", x.toll(3), 0);
            Check.due("what lies there stays", x.about(12), 0);
        });
        Document.says("NONE if there is none such.", () -> {
            DeckChairs x = Check.told(CHAIRS + SITTERS);
            for (int wrong : NO_NUMBERS) {
                Check.due("toll(" + wrong + ")", x.toll(wrong), -1);
            }
            Check.due("toll(0) of nobody", Check.told(CHAIRS).toll(0), -1);
        });
    }

    private static void openingAndTrade() {
        Document.says("`int opening(int chair)`: OPENING: how many MOVES (0: it is);", () -> {
            DeckChairs x = Check.told("chair a stripes 0;chair b stripes 0 shut 3 3 3;chair c stripes 0 shut 2 2 3;");
            Check.due("it is", x.opening(0), 0);
            Check.due("by MOVE 3", x.opening(1), 1);
            Check.due("by MOVES 0 and 3", x.opening(2), 2);
            Check.due("no MOVE is done", x.about(2) * 10 + x.about(6), 10);
        });
        Document.says("NONE if there is none such.", () -> {
            DeckChairs x = Check.told(CHAIRS);
            for (int wrong : NO_NUMBERS) {
                Check.due("opening(" + wrong + ")", x.opening(wrong), -1);
            }
        });
        Document.says("MOVES lie there then (behind NONE: nothing).", () -> {
            DeckChairs x = Check.told("chair a stripes 0;chair b stripes 0 shut 3 3 3;chair c stripes 0 shut 2 2 3;");
            x.opening(1);
            Check.lies("opening(1)", x, 3);
            x.opening(2);
            Check.lies("opening(2)", x, 0, 3);
            x.opening(0);
            Check.lies("opening(0)", x);
            x.opening(2);
            x.opening(3);
            Check.lies("behind NONE", x);
        });
        Document.says("`int trade(int what)`: TRADE what 0: the first one, 1: the other one, 2: what is HAD then;", () -> {
            DeckChairs x = Check.told(CHAIRS + SITTERS + "had (stripes + likes = 4) * 10 + 1;");
            x.sit(2, 2);
            x.sit(1, 0);
            x.sit(4, 3);
            Check.due("trade(0)", x.trade(0), 1);
            Check.due("trade(1)", x.trade(1), 4);
            Check.due("trade(2)", x.trade(2), 33);
        });
        Document.says("NONE if there are none, or for another what.", () -> {
            DeckChairs x = Check.told(CHAIRS + SITTERS + "had (stripes + likes = 4) * 10 + 1;");
            x.sit(1, 3);
            x.sit(4, 0);
            for (int what = 0; what <= 2; what++) {
                Check.due("there are none: trade(" + what + ")", x.trade(what), -1);
            }
            x.change(1, 4);
            Check.due("there are", x.trade(2), 22);
            for (int wrong : NO_NUMBERS) {
                Check.due("trade(" + wrong + ")", x.trade(wrong), -1);
            }
            Check.due("trade(3)", x.trade(3), -1);
        });
    }

    private static void ringEnvyRow() {
        Document.says("`int ring()`: RING: how many change. The CHAIR of each SITTER (-1: none) lies there then.", () -> {
            DeckChairs x = Check.told(CHAIRS + SITTERS + "had (stripes = (likes + 1) % 4) * 10 + 1;");
            Check.due("nobody SITS", x.ring(), 0);
            Check.lies("nobody SITS", x, -1, -1, -1, -1, -1);
            for (int s = 0; s < 4; s++) {
                x.sit(s, s);
            }
            Check.due("four", x.ring(), 4);
            Check.lies("four", x, 1, 2, 3, 0, -1);
            Check.due("nobody is moved", x.sitter(0, 2), 0);
            x.sit(4, 4);
            Check.due("four, and one stays", x.ring(), 4);
            Check.lies("four, and one stays", x, 1, 2, 3, 0, 4);
            Check.due("of nobody", Check.told(CHAIRS).ring(), 0);
        });
        Document.says("`int envy(int sitter)`: ENVY, as bits;", () -> {
            DeckChairs x = Check.told(CHAIRS + SITTERS + "had stripes % 3;");
            x.sit(0, 0);
            x.sit(1, 2);
            Check.due("more in b, c, e", x.envy(0), 22);
            Check.due("most he has", x.envy(1), 0);
        });
        Document.says("NONE if he SITS in none, or there is none such.", () -> {
            DeckChairs x = Check.told(CHAIRS + SITTERS + "had stripes;");
            Check.due("he SITS in none", x.envy(0), -1);
            x.sit(0, 0);
            Check.due("he SITS", x.envy(0), 30);
            Check.due("another one does not", x.envy(1), -1);
            for (int wrong : NO_NUMBERS) {
                Check.due("envy(" + wrong + ")", x.envy(wrong), -1);
            }
        });
        Document.says("`int row(int chair, int other)`: ROW (0 if both are one);", () -> {
            DeckChairs x = Check.told(CHAIRS + SITTERS);
            Check.due("row(0, 4)", x.row(0, 4), 3);
            Check.due("row(4, 1)", x.row(4, 1), 2);
            x.sit(0, 2);
            Check.due("one taken", x.row(0, 4), 2);
            for (int c = 0; c < 5; c++) {
                Check.due("both are one: " + c, x.row(c, c), 0);
            }
        });
        Document.says("NONE if one can't be.", () -> {
            DeckChairs x = Check.told(CHAIRS);
            for (int wrong : NO_NUMBERS) {
                Check.due("row(0, " + wrong + ")", x.row(0, wrong), -1);
                Check.due("row(" + wrong + ", 0)", x.row(wrong, 0), -1);
                Check.due("both are one: " + wrong, x.row(wrong, wrong), -1);
            }
        });
    }

    private static void rivals() {
        Document.says("`int rivals(int sitter, int other)`: RIVALS: how many RESTS;", () -> {
            // Each would have 5 in the CHAIR of his liking, 3 in c, 1 elsewhere.
            DeckChairs x = Check.told(CHAIRS + SITTERS + "had (stripes = likes) * 4 + (stripes = 2) * 2 + 1;");
            Check.due("one", x.rivals(1, 3), 1);
            // Without c one who finds the other one in his CHAIR has nowhere better to go.
            x.move(2, 0);
            Check.due("two", x.rivals(1, 3), 2);
            // All five alike: whatever two CHAIRS they make for.
            Check.due("twenty", Check.told(CHAIRS + SITTERS + "had 1;").rivals(0, 4), 20);
            Check.due("nothing is HAD anywhere", Check.told(CHAIRS + SITTERS + "had 0;").rivals(0, 4), 25);
        });
        Document.says("NONE if both are one, one SITS, no OPEN CHAIR is free, or one can't be.", () -> {
            DeckChairs x = Check.told("chair a stripes 0;chair b stripes 0;" + SITTERS);
            Check.due("both are one", x.rivals(1, 1), -1);
            for (int wrong : NO_NUMBERS) {
                Check.due("rivals(0, " + wrong + ")", x.rivals(0, wrong), -1);
                Check.due("rivals(" + wrong + ", 0)", x.rivals(wrong, 0), -1);
            }
            x.sit(0, 0);
            Check.due("one SITS", x.rivals(0, 1), -1);
            Check.due("the other one SITS", x.rivals(1, 0), -1);
            Check.due("neither SITS", x.rivals(1, 2), 1);
            x.move(1, 0);
            Check.due("one is taken, one is shut", x.rivals(1, 2), -1);
            Check.due("no CHAIRS", Check.told(SITTERS).rivals(0, 1), -1);
        });
        Document.says("The CHAIRS of the first of these lie there then (the first one's, the other one's; of like ones the least"
                + " numbers; behind 0, NONE: nothing).", () -> {
                    DeckChairs x = Check.told(CHAIRS + SITTERS + "had (stripes = likes) * 4 + (stripes = 2) * 2 + 1;");
                    x.rivals(1, 3);
                    Check.lies("the first one's, the other one's", x, 1, 3);
                    x.rivals(3, 1);
                    Check.lies("the other way round", x, 3, 1);
                    x.rivals(1, 1);
                    Check.lies("behind NONE", x);
                    DeckChairs y = Check.told(CHAIRS + SITTERS + "had 1;");
                    y.rivals(0, 4);
                    Check.lies("the least numbers", y, 0, 1);
                    y.sit(1, 0);
                    y.move(2, 0);
                    y.rivals(4, 0);
                    Check.lies("the least that are OPEN and free", y, 1, 3);
                    // Next to one another p has more, q less; of four CHAIRS there is always one to come or to go to.
                    DeckChairs z = Check.told("chair a stripes 0;chair b stripes 0;chair c stripes 0;chair d stripes 0;" + SITTERS
                            + "had 1 + (likes = 0) * (1 - alone) + (likes = 1) * alone;");
                    z.seat();
                    Check.due("no RESTS", z.rivals(0, 1), 0);
                    Check.lies("behind 0", z);
                });
    }

    private static void bestAndNoon() {
        Document.says("`int best(int sitter, int what)`: The OPEN CHAIR that is free in which he would have most now (as at had());"
                + " of like ones the first: what 0: it, 1: how much;", () -> {
                    DeckChairs x = Check.told(CHAIRS + SITTERS + "had stripes % 4 * 5 + alone * 2 + likes;");
                    Check.due("d", x.best(4, 0) * 100 + x.best(4, 1), 321);
                    x.sit(0, 3);
                    // c: 10 and 4 next to d; b: 5 and 2 and 4.
                    Check.due("d is taken", x.best(4, 0) * 100 + x.best(4, 1), 214);
                    x.move(2, 0);
                    Check.due("c is shut", x.best(4, 0) * 100 + x.best(4, 1), 111);
                    Check.due("his own is not free", x.best(0, 0) * 100 + x.best(0, 1), 107);
                    Check.due("of like ones the first", Check.told(CHAIRS + SITTERS + "had stripes > 1;").best(0, 0), 2);
                    Check.due("nothing is HAD", Check.told(CHAIRS + SITTERS + "had 0;").best(0, 0), 0);
                });
        Document.says("NONE if there is none, or one can't be.", () -> {
            DeckChairs x = Check.told("chair a stripes 0;chair b stripes 0 shut 0 0 1;" + SITTERS);
            for (int wrong : NO_NUMBERS) {
                Check.due("best(" + wrong + ", 0)", x.best(wrong, 0), -1);
                Check.due("best(0, " + wrong + ")", x.best(0, wrong), -1);
            }
            Check.due("best(0, 2)", x.best(0, 2), -1);
            x.sit(1, 0);
            Check.due("there is none", x.best(0, 0), -1);
            Check.due("there is none", x.best(0, 1), -1);
        });
        Document.says("`int noon(int sitter, int chair)`: The hour (0 .. 99) in which a SITTER would have most in a CHAIR (all else as"
                + " at had()); of like ones the least;", () -> {
                    for (int noon : new int[] {0, 1, 50, 98, 99}) {
                        DeckChairs x = Check.told(CHAIRS + SITTERS + "had hour = " + noon + ";");
                        x.hour();
                        Check.due("just in that one", x.noon(2, 3), noon);
                        Check.due("in it or in one behind", Check.told(CHAIRS + SITTERS + "had 5 + (hour > " + noon + ");").noon(0, 0),
                                noon == 99 ? 0 : noon + 1);
                    }
                    Check.due("not in the 100th", Check.told(CHAIRS + SITTERS + "had hour / 100;").noon(0, 0), 0);
                    // All else as at had(): alone, SAT, SAND and what he likes.
                    DeckChairs y = Check.told(CHAIRS + SITTERS + "had hour = alone * 10 + sat * 20 + sand * 40 + likes;");
                    Check.due("alone, liking 1", y.noon(1, 1), 11);
                    y.fill(0, 99);
                    y.sit(0, 1);
                    y.hour();
                    Check.due("alone, SAT 1, SAND 1", y.noon(0, 1), 70);
                    Check.due("SAND 1 where another one SITS", y.noon(1, 1), 51);
                    Check.due("beside him", y.noon(1, 2), 1);
                    Check.due("beside his own", y.noon(0, 2), 10);
                });
        Document.says("NONE if one can't be.", () -> {
            DeckChairs x = Check.told(CHAIRS + SITTERS);
            for (int wrong : NO_NUMBERS) {
                Check.due("noon(0, " + wrong + ")", x.noon(0, wrong), -1);
                Check.due("noon(" + wrong + ", 0)", x.noon(wrong, 0), -1);
            }
        });
    }

    // ---- looks at the row ----

    /** Seats SITTERS 0, 1 .. in those CHAIRS that are told as bits. */
    private static DeckChairs taken(int bits, String had) {
        DeckChairs x = Check.told(CHAIRS + SITTERS + had);
        int sitter = 0;
        for (int c = 0; c < 5; c++) {
            if ((bits >> c & 1) == 1) {
                x.sit(sitter, c);
                sitter++;
            }
        }
        return x;
    }

    private static void lonelyGapBroke() {
        Document.says("`int lonely()`: SITTERS who SIT alone (no CHAIR next to theirs is taken), as bits.", () -> {
            for (int bits = 0; bits < 32; bits++) {
                int want = 0;
                int sitter = 0;
                for (int c = 0; c < 5; c++) {
                    if ((bits >> c & 1) == 1) {
                        boolean alone = (c == 0 || (bits >> c - 1 & 1) == 0) && (bits >> c + 1 & 1) == 0;
                        want += alone ? 1 << sitter : 0;
                        sitter++;
                    }
                }
                Check.due("lonely(), taken " + bits, taken(bits, "").lonely(), want);
            }
        });
        Document.says("`int gap()`: How many CHAIRS stand in the longest run of OPEN ones that are free.", () -> {
            for (int bits = 0; bits < 32; bits++) {
                int want = 0;
                for (int run = 1; run <= 5; run++) {
                    for (int from = 0; from + run <= 5; from++) {
                        want = (bits >> from & (1 << run) - 1) == 0 ? run : want;
                    }
                }
                Check.due("gap(), taken " + bits, taken(bits, "").gap(), want);
                DeckChairs shut = Check.told(CHAIRS);
                for (int c = 0; c < 5; c++) {
                    if ((bits >> c & 1) == 1) {
                        shut.move(c, c % 4);
                    }
                }
                Check.due("gap(), shut " + bits, shut.gap(), want);
            }
        });
        Document.says("`int broke()`: SITTERS who SIT and whose purse does not hold what is HAD now (each by what is so now), as bits.",
                () -> {
                    DeckChairs x = Check.told(CHAIRS + "sitter p purse 9 likes 9;sitter q purse 9 likes 8;"
                            + "sitter r purse 0 likes 0;sitter s purse 8 likes 9;had likes + alone;");
                    Check.due("nobody SITS", x.broke(), 0);
                    x.sit(0, 0);
                    Check.due("9 does not hold 10", x.broke(), 1);
                    x.sit(1, 4);
                    Check.due("9 holds 9", x.broke(), 1);
                    x.sit(2, 3);
                    Check.due("0 holds 0", x.broke(), 1);
                    x.sit(3, 1);
                    Check.due("9 holds 9 now; 8 does not", x.broke(), 8);
                    // Though q's neighbour would get up first in an HOUR: by what is so now.
                    DeckChairs y = Check.told(CHAIRS + "sitter p purse 0 likes 0;sitter q purse 5 likes 0;had 5 + alone;");
                    y.sit(0, 0);
                    y.sit(1, 1);
                    Check.due("each by what is so now", y.broke(), 1);
                    Check.due("all five", taken(31, "had 51;").broke(), 31);
                    Check.due("none of five", taken(31, "had 50;").broke(), 0);
                });
    }

    private static void throneCouplesVeteran() {
        Document.says("`int throne()`: The CHAIR with most SAND; of like ones the first; NONE without CHAIRS.", () -> {
            DeckChairs x = Check.told(CHAIRS + SITTERS + "had 0;");
            Check.due("all alike", x.throne(), 0);
            x.sit(0, 4);
            x.hour();
            Check.due("the last one", x.throne(), 4);
            x.sit(1, 2);
            x.rise(0);
            x.hour();
            Check.due("two alike", x.throne(), 2);
            x.sit(0, 4);
            x.hour();
            Check.due("two alike still", x.throne(), 2);
            x.rise(1);
            x.hour();
            Check.due("the last one again", x.throne(), 4);
            Check.due("without CHAIRS", Check.told(SITTERS).throne(), -1);
        });
        Document.says("`int couples()`: How many two CHAIRS next to one another in the row are both taken.", () -> {
            for (int bits = 0; bits < 32; bits++) {
                int want = 0;
                for (int c = 0; c < 4; c++) {
                    want += (bits >> c & 3) == 3 ? 1 : 0;
                }
                Check.due("couples(), taken " + bits, taken(bits, "").couples(), want);
            }
        });
        Document.says("`int veteran()`: The SITTER who SITS and SAT longest; of like ones the first; NONE if nobody SITS.", () -> {
            DeckChairs x = Check.told(CHAIRS + SITTERS + "had 0;");
            Check.due("nobody SITS", x.veteran(), -1);
            x.sit(4, 0);
            Check.due("he who SITS", x.veteran(), 4);
            x.hour();
            x.sit(1, 3);
            Check.due("who SAT longest", x.veteran(), 4);
            x.sit(2, 2);
            x.rise(4);
            Check.due("of like ones the first", x.veteran(), 1);
            x.hour();
            x.sit(0, 1);
            Check.due("not who has just sat down", x.veteran(), 1);
            x.change(0, 1);
            Check.due("behind a change both SAT 0", x.veteran(), 2);
            x.rise(2);
            Check.due("the very first one", x.veteran(), 0);
        });
    }

    private static void richestTakingsLaw() {
        Document.says("`int richest()`: The SITTER with most in his purse; of like ones the first; NONE without SITTERS.", () -> {
            DeckChairs x = Check.told(CHAIRS + SITTERS + "had 5;");
            Check.due("all alike", x.richest(), 0);
            x.sit(0, 0);
            x.hour();
            Check.due("of the others the first", x.richest(), 1);
            x.fill(4, 1);
            Check.due("the last one", x.richest(), 4);
            x.fill(3, 1);
            Check.due("of like ones the first", x.richest(), 3);
            Check.due("without SITTERS", Check.told(CHAIRS).richest(), -1);
        });
        Document.says("`int takings()`: What all paid so far: what all HAD together.", () -> {
            DeckChairs x = Check.told(CHAIRS + SITTERS + "had likes + 1;");
            Check.due("nothing", x.takings(), 0);
            for (int s = 0; s < 5; s++) {
                x.sit(s, s);
            }
            x.hour();
            Check.due("all five", x.takings(), 15);
            x.rise(4);
            x.hour();
            Check.due("and four of them", x.takings(), 25);
            x.undo();
            Check.due("undone", x.takings(), 15);
        });
        Document.says("`int law(int sand)`: What would be HAD by all who SIT, each by what is so now, if each CHAIR had so much SAND"
                + " (0 .. 99);", () -> {
                    DeckChairs x = Check.told(CHAIRS + SITTERS + "had sand + alone * 10 + sat * 20 + hour + likes;");
                    Check.due("nobody SITS", x.law(50), 0);
                    x.sit(0, 0);
                    x.sit(1, 1);
                    x.sit(4, 4);
                    Check.due("by 0", x.law(0), 0 + 1 + 14);
                    Check.due("by 3", x.law(3), 3 + 4 + 17);
                    Check.due("by 99", x.law(99), 3 * 99);
                    x.hour();
                    Check.due("SAT 1, hour 1, whatever SAND there is", x.law(0), 21 + 22 + 35);
                    Check.due("the SAND stays", x.chair(0, 1) * 100 + x.chair(1, 1) * 10 + x.chair(4, 1), 111);
                });
        Document.says("NONE for another.", () -> {
            DeckChairs x = Check.told(CHAIRS + SITTERS);
            for (int wrong : new int[] {MIN, -1, 100, MAX}) {
                Check.due("law(" + wrong + ")", x.law(wrong), -1);
            }
        });
    }

    private static int moved(int n, int move) {
        int[] first = {1, 0, 3, 1};
        int[] second = {1, 3, 0, 1};
        int[] third = {0, 1, 2, 1};
        return (n / 16 + first[move]) % 4 * 16 + (n / 4 % 4 + second[move]) % 4 * 4 + (n % 4 + third[move]) % 4;
    }

    private static void worstOddsLies() {
        Document.says("`int worst(int what)`: The JOINTS (as a number, of all that there may be) from which OPENING takes most MOVES;"
                + " of like ones the least: what 0: they, 1: how many;", () -> {
                    // How far each number is, found out by going on till nothing changes any more.
                    int[] far = new int[64];
                    java.util.Arrays.fill(far, 1, 64, 99);
                    for (int round = 0; round < 64; round++) {
                        for (int n = 1; n < 64; n++) {
                            for (int move = 0; move < 4; move++) {
                                far[n] = Math.min(far[n], 1 + far[moved(n, move)]);
                            }
                        }
                    }
                    int worst = 0;
                    for (int n = 63; n >= 0; n--) {
                        worst = far[n] >= far[worst] ? n : worst;
                    }
                    for (DeckChairs x : new DeckChairs[] {new DeckChairs(), Check.told(CHAIRS + SITTERS)}) {
                        Check.due("worst(0)", x.worst(0), worst);
                        Check.due("worst(1)", x.worst(1), far[worst]);
                    }
                    DeckChairs y = Check.told("chair a stripes 0 shut " + worst / 16 + " " + worst / 4 % 4 + " " + worst % 4 + ";");
                    Check.due("OPENING from there", y.opening(0), far[worst]);
                });
        Document.says("NONE for another what.", () -> {
            DeckChairs x = new DeckChairs();
            for (int wrong : new int[] {MIN, -1, 2, 9, MAX}) {
                Check.due("worst(" + wrong + ")", x.worst(wrong), -1);
            }
        });
        Document.says("`int odds(int n, int part)`: ODDS (n 0 .. 4) the upper part (0), the lower part (1), in lowest terms (0 of 1);",
                () -> {
                    int[][] want = {{0, 1, 1, 1}, {100, 1, 0, 1}, {100, 0, 1, 1}, {100, 4, 0, 1}, {50, 1, 1, 2}, {50, 4, 1, 16},
                        {20, 2, 16, 25}, {1, 4, 96059601, 100000000}, {99, 4, 1, 100000000}, {60, 3, 8, 125}, {37, 2, 3969, 10000}};
                    for (int[] w : want) {
                        DeckChairs x = Check.told("gust " + w[0] + ";");
                        Check.due("gust " + w[0] + ", n " + w[1] + ": upper", x.odds(w[1], 0), w[2]);
                        Check.due("gust " + w[0] + ", n " + w[1] + ": lower", x.odds(w[1], 1), w[3]);
                    }
                });
        Document.says("NONE if one can't be.", () -> {
            DeckChairs x = Check.told("gust 37;");
            for (int wrong : NO_NUMBERS) {
                Check.due("odds(" + wrong + ", 0)", x.odds(wrong, 0), -1);
                Check.due("odds(1, " + wrong + ")", x.odds(1, wrong), -1);
            }
            Check.due("odds(1, 2)", x.odds(1, 2), -1);
        });
        Document.says("`int lies(int i)`: The i-th number of what lies there;", () -> {
            DeckChairs x = Check.told("chair x stripes 0 shut 2 2 3;chair y stripes 0;" + SITTERS + "had likes;");
            x.opening(0);
            Check.due("the first one", x.lies(0), 0);
            Check.due("the next one", x.lies(1), 3);
            x.seat();
            for (int s = 0; s < 4; s++) {
                Check.due("the CHAIR of " + s, x.lies(s), -1);
            }
            Check.due("the CHAIR of the last one", x.lies(4), 1);
            x.had(0, 0);
            x.hour();
            x.undo();
            Check.due("it lies there on", x.lies(4), 1);
        });
        Document.says("-2 if there is none such.", () -> {
            DeckChairs x = Check.told(CHAIRS + SITTERS);
            Check.due("nothing lies there", x.lies(0), -2);
            x.seat();
            Check.due("the last one", x.lies(4), 4);
            for (int wrong : NO_NUMBERS) {
                Check.due("lies(" + wrong + ")", x.lies(wrong), -2);
            }
        });
    }

    // ---- SEEN ----

    private static void seenUntellLater() {
        Document.says("`int seen(int chair, int much, boolean is)`: A SEEN (how much 0 .. 99): its number;", () -> {
            DeckChairs x = Check.told(CHAIRS + SITTERS + "had likes * stripes;");
            Check.due("the first one", x.seen(4, 0, true), 0);
            Check.due("the next one", x.seen(4, 99, true), 1);
            Check.due("25 and more", x.fits(0), 6);
            Check.due("one more", x.seen(0, 1, false), 2);
            Check.due("how many", x.about(8), 3);
        });
        Document.says("NONE, doing nothing, if one can't be, there are 30, or no SITTERS.", () -> {
            for (int wrong : NO_NUMBERS) {
                Twins.refused("seen(" + wrong + ", 1, true)", RICH, x -> x.seen(wrong, 1, true), -1);
            }
            Twins.refused("seen(4, 1, true)", RICH, x -> x.seen(4, 1, true), -1);
            for (int wrong : new int[] {MIN, -1, 100, MAX}) {
                Twins.refused("seen(0, " + wrong + ", false)", RICH, x -> x.seen(0, wrong, false), -1);
            }
            Twins.refused("there are 30", x -> {
                RefusedTest.rich(x);
                for (int i = 2; i < 30; i++) {
                    Check.due("seen " + i, x.seen(0, 0, true), i);
                }
            }, x -> x.seen(0, 99, true), -1);
            Twins.refused("no SITTERS", x -> Check.tell(x, CHAIRS), x -> x.seen(0, 1, true), -1);
        });
        Document.says("`boolean untell(int seen)`: It is UNTOLD: true;", () -> {
            DeckChairs x = Check.told(CHAIRS + SITTERS + "had likes * stripes;");
            x.seen(1, 10, true);
            x.seen(1, 20, true);
            x.later(1);
            Check.due("untell(1)", x.untell(1), true);
            Check.due("then and before", x.sure(0, 1) * 100 + x.sure(0, 0), 1020);
            Check.due("untell(0)", x.untell(0), true);
            Check.due("nothing counts", x.fits(1), 31);
        });
        Document.says("false if it is so already, or there is none such.", () -> {
            Twins.refused("it is so already", RICH, x -> x.untell(0) ? 1 : 0, 0);
            Twins.refused("untell(2)", RICH, x -> x.untell(2) ? 1 : 0, 0);
            for (int wrong : NO_NUMBERS) {
                Twins.refused("untell(" + wrong + ")", RICH, x -> x.untell(wrong) ? 1 : 0, 0);
            }
        });
        Document.says("`int later(int by)`: So much later (0 .. 1000): the TIME;", () -> {
            DeckChairs x = new DeckChairs();
            Check.due("later(0)", x.later(0), 0);
            Check.due("later(1000)", x.later(1000), 1000);
            Check.due("later(7)", x.later(7), 1007);
            Check.due("the TIME", x.about(9), 1007);
        });
        Document.says("NONE, doing nothing, for another number, or if it would be above 100,000.", () -> {
            for (int wrong : new int[] {MIN, -1, 1001, MAX}) {
                Twins.refused("later(" + wrong + ")", RICH, x -> x.later(wrong), -1);
            }
            Twins.Calls late = x -> {
                for (int i = 0; i < 99; i++) {
                    x.later(1000);
                }
                x.later(900);
            };
            Twins.refused("later(101) at 99,900", late, x -> x.later(101), -1);
            Check.due("later(100) at 99,900", Twins.made(late).later(100), 100000);
        });
    }

    private static void fitsSureAsk() {
        Document.says("`int fits(int k)`: FITS: how many (0 without SITTERS).", () -> {
            DeckChairs x = Check.told(CHAIRS + SITTERS + "had likes * stripes;");
            Check.due("all", x.fits(0), 31);
            x.later(2);
            x.seen(2, 21, true);
            Check.due("11 and more", x.fits(2), 20);
            Check.due("as known before", x.fits(1), 31);
            Check.due("without SITTERS", Check.told(CHAIRS).fits(0), 0);
            Check.due("without CHAIRS", Check.told(SITTERS).fits(0), 31);
        });
        Document.says("`int sure(int what, int k)`: The least of FITS (what 0), the greatest (1);", () -> {
            DeckChairs x = Check.told(CHAIRS + SITTERS + "had likes * stripes;");
            x.seen(2, 21, true);
            x.later(1);
            x.seen(3, 60, false);
            Check.due("11 to 30", x.sure(0, 0) * 100 + x.sure(1, 0), 1130);
            Check.due("11 to 19", x.sure(0, 1) * 100 + x.sure(1, 1), 1119);
        });
        Document.says("NONE if none FITS, or for another what.", () -> {
            DeckChairs x = Check.told(CHAIRS + SITTERS + "had likes * stripes;");
            for (int wrong : NO_NUMBERS) {
                Check.due("sure(" + wrong + ", 0)", x.sure(wrong, 0), -1);
            }
            Check.due("sure(2, 0)", x.sure(2, 0), -1);
            x.seen(0, 1, true);
            Check.due("none FITS", x.sure(0, 0), -1);
            Check.due("none FITS", x.sure(1, 0), -1);
            Check.due("no SITTERS", Check.told(CHAIRS).sure(0, 0), -1);
        });
        Document.says("`int ask(int what, int k)`: ASK what 0: the CHAIR, 1: how many are left at the most;", () -> {
            DeckChairs x = Check.told(CHAIRS + SITTERS + "had likes / (5 - stripes);");
            Check.due("by e each is known", x.ask(0, 0) * 100 + x.ask(1, 0), 401);
            DeckChairs y = Check.told(CHAIRS + SITTERS + "had likes / (stripes + 3);");
            Check.due("by thirds", y.ask(0, 0) * 100 + y.ask(1, 0), 3);
            y.later(1);
            y.seen(1, 1, true);
            y.seen(1, 2, false);
            // 4 to 7 are left: thirds part them 2 and 2, fifths 1 and 3, sixths 2 and 2, sevenths 3 and 1.
            Check.due("two are left", y.ask(0, 1) * 100 + y.ask(1, 1), 2);
            Check.due("as known before", y.ask(1, 0), 3);
        });
        Document.says("NONE if none FITS, there are no CHAIRS, or for another what.", () -> {
            DeckChairs x = Check.told(CHAIRS + SITTERS + "had likes * stripes;");
            for (int wrong : NO_NUMBERS) {
                Check.due("ask(" + wrong + ", 0)", x.ask(wrong, 0), -1);
            }
            Check.due("ask(2, 0)", x.ask(2, 0), -1);
            x.seen(0, 1, true);
            for (int what = 0; what < 2; what++) {
                Check.due("none FITS", x.ask(what, 0), -1);
                Check.due("no CHAIRS", Check.told(SITTERS).ask(what, 0), -1);
                Check.due("no SITTERS", Check.told(CHAIRS).ask(what, 0), -1);
            }
        });
    }

    // ---- images ----

    private static String kept(DeckChairs x) {
        StringBuilder t = new StringBuilder();
        for (int i = 0; i < 5; i++) {
            t.append("\nJOINTS ").append(x.chair(i, 4)).append(x.chair(i, 5)).append(x.chair(i, 6));
            t.append("\nSAND ").append(x.chair(i, 1)).append("\nwho ").append(x.chair(i, 2));
            t.append("\nwhere ").append(x.sitter(i, 2)).append("\nSAT ").append(x.sitter(i, 3));
            t.append("\npurse ").append(x.sitter(i, 1)).append("\nHAD ").append(x.sitter(i, 4));
        }
        return t.append("\nhour ").append(x.about(4)).append("\nSEED ").append(x.about(5)).append("\n").toString();
    }

    private static void busy(DeckChairs x, int turn) {
        x.sit(turn % 5, (turn + 2) % 5);
        x.hour();
        x.sit((turn + 1) % 5, turn % 5);
        x.move((turn + 4) % 5, turn % 4);
        x.fill((turn + 3) % 5, turn + 1);
        x.hour();
    }

    private static void imageAndBack() {
        Document.says("`int image(int box)`: JOINTS, SAND, who SITS where, how long, purses, what all HAD, the hour, the SEED are kept"
                + " in a BOX 0 .. 2: the hour;", () -> {
                    DeckChairs x = Check.told(CHAIRS + SITTERS + "had 1 + likes;gust 25;draw 77;");
                    String[] then = new String[3];
                    for (int box = 0; box < 3; box++) {
                        busy(x, box);
                        then[box] = kept(x);
                        Check.due("image(" + box + ")", x.image(box), 2 * box + 2);
                        Twins.same("nothing is done", kept(x), then[box]);
                    }
                    busy(x, 3);
                    for (int box : new int[] {1, 2, 0, 2, 1}) {
                        x.back(box);
                        Twins.same("BOX " + box, kept(x), then[box]);
                        busy(x, box + 1);
                    }
                });
        Document.says("NONE if there is none such.", () -> {
            for (int wrong : NO_NUMBERS) {
                Twins.refused("image(" + wrong + ")", RICH, x -> x.image(wrong), -1);
            }
            Twins.refused("image(3)", RICH, x -> x.image(3), -1);
        });
        Document.says("`int back(int box)`: All is as it was kept (no ACTS are kept then): the hour;", () -> {
            DeckChairs x = Check.told(CHAIRS + SITTERS + "had 1 + likes;gust 25;draw 77;");
            busy(x, 0);
            String then = kept(x);
            x.image(1);
            busy(x, 1);
            x.undo();
            Check.due("another state", kept(x).equals(then), false);
            Check.due("back(1)", x.back(1), 2);
            Twins.same("as it was kept", kept(x), then);
            Check.due("to be undone", x.about(6), 0);
            Check.due("to be redone", x.about(7), 0);
            Check.due("undo()", x.undo(), false);
            Check.due("redo()", x.redo(), false);
            x.fill(0, 1);
            x.undo();
            Twins.same("undone to it", kept(x), then);
        });
        Document.says("NONE, doing nothing, if nothing was.", () -> {
            Twins.refused("back(1)", RICH, x -> x.back(1), -1);
            for (int wrong : NO_NUMBERS) {
                Twins.refused("back(" + wrong + ")", RICH, x -> x.back(wrong), -1);
            }
            Twins.refused("back(3)", RICH, x -> x.back(3), -1);
        });
    }

    private static void about() {
        Document.says("`int about(int what)`: What 0: SITTERS, 1: CHAIRS, 2: OPEN ones, 3: taken ones, both as bits, 4: the hour, 5: the"
                + " SEED, 6: ACTS that can be undone, 7: redone, 8: what is SEEN, 9: the TIME, 10: bytes on the TAPE, 11: units, 12:"
                + " numbers that lie there, 13: gust in 100.", () -> {
                    DeckChairs x = Check.told("chair a stripes 0;chair b stripes 0 shut 1 2 3;chair c stripes 0;chair d stripes 0;"
                            + "sitter p purse 50 likes 0;sitter q purse 50 likes 0;sitter r purse 50 likes 0;"
                            + "had 1 + (2 - alone) * likes;gust 0;draw 1;");
                    x.sit(1, 3);
                    x.hour();
                    x.hour();
                    x.fill(0, 1);
                    x.undo();
                    x.sit(0, 0);
                    x.fill(0, 1);
                    x.fill(0, 2);
                    x.fill(0, 3);
                    x.undo();
                    x.undo();
                    x.later(44);
                    x.seen(0, 1, true);
                    x.seen(0, 1, true);
                    x.seen(0, 1, true);
                    x.opening(1);
                    x.feed(0, 0, 0, 0, 0);
                    x.end(17);
                    // Two CHAIRS draw in each of two HOURS: 1, 208, 567, 750, 821.
                    int[] want = {3, 4, 13, 9, 2, 821, 5, 2, 3, 44, 17, 5, 4, 0};
                    for (int what = 0; what < want.length; what++) {
                        Check.due("about(" + what + ")", x.about(what), want[what]);
                    }
                    Check.due("gust in 100", Check.told("gust 64;").about(13), 64);
                });
        Document.says("NONE for another what.", () -> {
            DeckChairs x = Check.told(CHAIRS + SITTERS);
            for (int wrong : new int[] {MIN, -2, -1, 14, 15, 100, MAX}) {
                Check.due("about(" + wrong + ")", x.about(wrong), -1);
            }
        });
    }
}
