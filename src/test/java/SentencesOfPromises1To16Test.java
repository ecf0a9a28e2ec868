/** Promises 1 to 16 of the document, sentence by sentence. */
public final class SentencesOfPromises1To16Test {
    private static final int MIN = Integer.MIN_VALUE;
    private static final int MAX = Integer.MAX_VALUE;
    private static final int BLANKS = 0x20202020;
    private static final Twins.Calls RICH = RefusedTest::rich;
    /** Numbers that no CHAIR, no SITTER and no what has. */
    private static final int[] NO_NUMBERS = {MIN, -100, -2, -1, 7, 8, 1000, MAX};

    private SentencesOfPromises1To16Test() {
    }

    public static void main(String[] args) throws Exception {
        newObject();
        feedAndEnd();
        beachAndFault();
        chairAndSitter();
        had();
        hour();
        sitAndRise();
        change();
        moveAndFill();
        undoAndRedo();
        Document.quotedFrom("## Promise 1:", "## Promise 17:");
        Check.end("SentencesOfPromises1To16Test");
    }

    private static void newObject() {
        Document.says("`DeckChairs()`: An empty BEACH.", () -> {
            DeckChairs x = new DeckChairs();
            for (int what = 0; what <= 13; what++) {
                Check.due("about(" + what + ")", x.about(what), 0);
            }
            Check.due("no CHAIR", x.chair(0, 0), -2);
            Check.due("no SITTER", x.sitter(0, 0), -2);
        });
    }

    // ---- the TAPE ----

    private static void feedAndEnd() {
        Document.says("`int feed(int a, int b, int c, int d, int e)`: Twenty bytes come behind those on the TAPE, of each number"
                + " the highest first: how many there are;", () -> {
                    DeckChairs x = new DeckChairs();
                    // "sitt", "er a", " pur", "se 1", "2 li", then "kes ", "3;", "gust", " 45;" and blanks
                    Check.due("twenty", x.feed(0x73697474, 0x65722061, 0x20707572, 0x73652031, 0x32206c69), 20);
                    Check.due("forty", x.feed(0x6b657320, 0x333b2020, 0x67757374, 0x2034353b, BLANKS), 40);
                    Check.due("bytes on the TAPE", x.about(10), 40);
                    Check.due("beach()", x.beach(), 1);
                    Check.due("purse, likes, gust", x.sitter(0, 1) * 1000 + x.sitter(0, 0) * 100 + x.about(13), 12345);
                    // Each place of the five numbers, each byte of them.
                    for (int i = 0; i < 20; i++) {
                        int[] five = {BLANKS, BLANKS, BLANKS, BLANKS, BLANKS};
                        five[i / 4] += ('#' - ' ') << 24 - i % 4 * 8;
                        DeckChairs y = new DeckChairs();
                        y.feed(five[0], five[1], five[2], five[3], five[4]);
                        y.beach();
                        Check.due("the place of byte " + i, y.fault(1), i);
                    }
                    DeckChairs z = new DeckChairs();
                    z.feed(0xff000000, 0, 0, 0, 0);
                    Check.due("a byte above 127", z.beach() + z.fault(0), 0);
                });
        Document.says("NONE, and nothing comes, if there would be more than 1,600.", () -> {
            for (int n : new int[] {1580, 1581, 1600}) {
                DeckChairs x = new DeckChairs();
                for (int i = 0; i < 80; i++) {
                    x.feed(BLANKS, BLANKS, BLANKS, BLANKS, BLANKS);
                }
                x.end(n);
                Check.due("twenty behind " + n, x.feed(0, 0, 0, 0, 0), n == 1580 ? 1600 : -1);
                Check.due("there are", x.about(10), n == 1580 ? 1600 : n);
                Check.due("nothing came", x.beach(), n == 1580 ? -1 : 0);
            }
        });
        Document.says("`int end(int n)`: The TAPE has its first n bytes: n;", () -> {
            DeckChairs x = new DeckChairs();
            x.feed(0x67757374, 0x2034353b, 0x64726177, 0x20373b23, 0x23232323);
            Check.due("end(15)", x.end(15), 15);
            Check.due("bytes on the TAPE", x.about(10), 15);
            Check.due("beach()", x.beach(), 0);
            Check.due("gust and draw", x.about(13) * 10 + x.about(5), 457);
            x.feed(0x67757374, 0x2034353b, 0x64726177, 0x20373b23, 0x23232323);
            Check.due("end(8)", x.end(8), 8);
            Check.due("beach()", x.beach(), 0);
            Check.due("gust and no draw", x.about(13) * 10 + x.about(5), 450);
            x.feed(0, 0, 0, 0, 0);
            Check.due("all of them", x.end(20), 20);
            Check.due("end(0)", x.end(0), 0);
            Check.due("beach()", x.beach(), 0);
            // "gust", " 45x", "xxxx" ..: what was cut off is not looked at.
            x.feed(0x67757374, 0x20343578, 0x78787878, 0x78787878, 0x78787878);
            x.end(7);
            x.beach();
            Check.due("a FAULT at the end", x.fault(0) * 10 + x.fault(1), 27);
        });
        Document.says("NONE, doing nothing, if it has not so many, or n is below 0.", () -> {
            Twins.refused("end(15) of 14", RICH, x -> x.end(15), -1);
            Twins.refused("end(1600) of 14", RICH, x -> x.end(1600), -1);
            Twins.refused("end(-1)", RICH, x -> x.end(-1), -1);
            Twins.refused("end(MIN)", RICH, x -> x.end(MIN), -1);
            Twins.refused("end(MAX)", RICH, x -> x.end(MAX), -1);
        });
    }

    // ---- the BEACH ----

    private static void beachAndFault() {
        Document.says("`int beach()`: The TAPE (empty then) is the BEACH (all as told, nobody SITS, hour 0, no ACTS are kept,"
                + " nothing is SEEN, nothing lies there, BOXES are empty then; the TIME stays): how many SITTERS;", () -> {
                    DeckChairs x = Twins.made(RICH);
                    x.end(0);
                    String text = "chair a stripes 7;chair b stripes 8 shut 0 0 2;chair c stripes 0;chair d stripes 0;"
                            + "sitter p purse 11 likes 6;sitter q purse 12 likes 5;had 1 + 2 + 3;gust 9;draw 10;";
                    Check.due("how many SITTERS", Check.tell(x, text), 2);
                    int[] about = {2, 4, 13, 0, 0, 10, 0, 0, 0, 6, 0, 3, 0, 9};
                    for (int what = 0; what < about.length; what++) {
                        Check.due("about(" + what + ")", x.about(what), about[what]);
                    }
                    int[][] chairs = {{7, 0, -1, 1, 0, 0, 0}, {8, 0, -1, 0, 0, 0, 2}, {0, 0, -1, 1, 0, 0, 0}, {0, 0, -1, 1, 0, 0, 0}};
                    int[][] sitters = {{6, 11, -1, 0, 0}, {5, 12, -1, 0, 0}};
                    for (int i = 0; i < 4; i++) {
                        for (int what = 0; what < 7; what++) {
                            Check.due("chair(" + i + ", " + what + ")", x.chair(i, what), chairs[i][what]);
                        }
                        for (int what = 0; what < 5; what++) {
                            Check.due("sitter(" + i + ", " + what + ")", x.sitter(i, what), i < 2 ? sitters[i][what] : -2);
                        }
                    }
                    Check.due("no fifth CHAIR", x.chair(4, 0), -2);
                    Check.due("no third SITTER", x.sitter(2, 0), -2);
                    Check.due("what is HAD", x.had(0, 0), 6);
                    Check.due("nothing to be undone", x.undo(), false);
                    Check.due("nothing to be redone", x.redo(), false);
                    Check.due("nothing to be UNTOLD", x.untell(0) || x.untell(1), false);
                    Check.due("nothing counts", x.fits(MAX), 31);
                    Check.due("nothing lies there", x.lies(0), -2);
                    for (int box = 0; box < 3; box++) {
                        Check.due("BOX " + box, x.back(box), -1);
                    }
                    oneBehindAnother();
                });
        Document.says("NONE: a FAULT (all stays).", () -> {
            for (String wrong : new String[] {"#", "gust 1;gust 1;", "chair a stripes 0;chair a stripes 0;", "draw 1000;",
                "chair a stripes 0;sitter s purse 1 likes 1;had 1;gust 1;draw 1;;"}) {
                DeckChairs x = Twins.made(RICH);
                String then = Twins.look(x).replaceAll("fault .*|about 10: .*", "");
                x.end(0);
                Check.due("beach() of " + wrong, Check.tell(x, wrong), -1);
                Twins.same("a FAULT", Twins.look(x).replaceAll("fault .*|about 10: .*", ""), then);
                Check.due("the TAPE", x.about(10), wrong.length());
                Check.due("what lies there", x.about(12), 3);
                Check.due("the same again", x.beach(), -1);
                Check.due("BOX 0", x.back(0), 0);
                Check.due("BOX 2", x.back(2), 1);
            }
        });
        Document.says("`int fault(int what)`: Of the latest beach() what 0: its FAULT (0), 1: its place (NONE).", () -> {
            DeckChairs x = new DeckChairs();
            Check.due("before", x.fault(0) * 100 + x.fault(1), -1);
            String[] texts = {"gust #;", "gust;", "chair a stripes 1;chair a stripes 1;", "gust 101;", "gust 100;"};
            int[] faults = {1, 2, 3, 4, 0};
            int[] places = {5, 4, 24, 5, -1};
            for (int i = 0; i < 5; i++) {
                x.end(0);
                Check.tell(x, texts[i]);
                Check.due("fault(0) of " + texts[i], x.fault(0), faults[i]);
                Check.due("fault(1) of " + texts[i], x.fault(1), places[i]);
                Check.feed(x, "#");
                Check.due("till another beach()", x.fault(0), faults[i]);
            }
        });
        Document.says("NONE for another what.", () -> {
            DeckChairs x = new DeckChairs();
            Check.tell(x, "gust 101;");
            for (int what : new int[] {MIN, -1, 2, 3, 4, MAX}) {
                Check.due("fault(" + what + ")", x.fault(what), -1);
            }
        });
    }

    /** Nothing of an earlier BEACH is left, nor of what was SEEN of it. */
    private static void oneBehindAnother() {
        DeckChairs x = new DeckChairs();
        for (int i = 0; i < 8; i++) {
            if (i % 4 < 2) {
                Check.due("full " + i, Check.tell(x, "chair a stripes 7 shut 1 1 1;chair b stripes 8;sitter p purse 31 likes 6;"
                        + "had " + i + " + 2 + 3;gust 9;draw 10;"), 1);
                Check.due("CHAIRS", x.about(1), 2);
                Check.due("units", x.about(11), 3);
                Check.due("what is HAD", x.had(0, 1), i + 5);
                Check.due("gust and SEED", x.about(13) * 100 + x.about(5), 910);
                x.seen(0, i + 6, true);
                Check.due("none FITS", x.fits(MAX), 0);
                x.sit(0, 1);
                x.hour();
            } else if (i == 6) {
                Check.due("a formula behind a longer one", Check.tell(x, "chair b stripes 1;sitter q purse 12 likes 5;had not 5;"), 1);
                Check.due("what is HAD", x.had(0, 0), 0);
                Check.tell(x, "chair b stripes 1;sitter q purse 12 likes 5;had not 5;");
                Check.tell(x, "chair b stripes 1;sitter q purse 12 likes 5;had 5;");
                Check.due("what is HAD", x.had(0, 0), 5);
            } else {
                Check.due("spare " + i, Check.tell(x, "chair b stripes 1;sitter q purse 12 likes 5;"), 1);
                Check.due("CHAIRS", x.about(1), 1);
                Check.due("units", x.about(11), 0);
                Check.due("what is HAD", x.had(0, 0), 11);
                Check.due("gust and SEED", x.about(13) * 100 + x.about(5), 0);
                Check.due("SAND", x.chair(0, 1), 0);
                Check.due("nothing to be UNTOLD", x.untell(0), false);
                Check.due("all FIT", x.fits(MAX), 31);
            }
        }
    }

    // ---- what is so now ----

    /** Two SIT, one SAT an hour; the first CHAIR is shut. */
    private static DeckChairs twoWhoSit() {
        DeckChairs x = Check.told("chair a stripes 4 shut 1 2 3;chair b stripes 5;chair c stripes 6;chair d stripes 7;"
                + "sitter p purse 10 likes 1;sitter q purse 20 likes 2;sitter r purse 30 likes 3;had 4;");
        x.sit(2, 1);
        x.hour();
        x.hour();
        x.sit(0, 3);
        return x;
    }

    private static void chairAndSitter() {
        Document.says("`int chair(int chair, int what)`: Of a CHAIR what 0: stripes, 1: SAND, 2: who SITS there (-1: nobody),"
                + " 3: 1 if OPEN, else 0, 4, 5, 6: its JOINTS;", () -> {
                    DeckChairs x = twoWhoSit();
                    int[][] want = {{4, 0, -1, 0, 1, 2, 3}, {5, 2, 2, 1, 0, 0, 0}, {6, 0, -1, 1, 0, 0, 0}, {7, 0, 0, 1, 0, 0, 0}};
                    for (int c = 0; c < 4; c++) {
                        for (int what = 0; what < 7; what++) {
                            Check.due("chair(" + c + ", " + what + ")", x.chair(c, what), want[c][what]);
                        }
                    }
                });
        Document.says("-2 if there is none such, or for another what.", () -> {
            DeckChairs x = twoWhoSit();
            for (int wrong : NO_NUMBERS) {
                Check.due("chair(0, " + wrong + ")", x.chair(0, wrong), -2);
                Check.due("chair(" + wrong + ", 0)", x.chair(wrong, 0), -2);
            }
            Check.due("chair(4, 0)", x.chair(4, 0), -2);
        });
        Document.says("`int sitter(int sitter, int what)`: Of a SITTER what 0: likes, 1: his purse, 2: the CHAIR (-1: none),"
                + " 3: SAT (0 in none), 4: what he HAD;", () -> {
                    DeckChairs x = twoWhoSit();
                    int[][] want = {{1, 10, 3, 0, 0}, {2, 20, -1, 0, 0}, {3, 22, 1, 2, 8}};
                    for (int s = 0; s < 3; s++) {
                        for (int what = 0; what < 5; what++) {
                            Check.due("sitter(" + s + ", " + what + ")", x.sitter(s, what), want[s][what]);
                        }
                    }
                    x.rise(2);
                    Check.due("SAT in none", x.sitter(2, 3), 0);
                });
        Document.says("-2 if there is none such, or for another what.", () -> {
            DeckChairs x = twoWhoSit();
            for (int wrong : NO_NUMBERS) {
                Check.due("sitter(0, " + wrong + ")", x.sitter(0, wrong), -2);
                Check.due("sitter(" + wrong + ", 0)", x.sitter(wrong, 0), -2);
            }
            Check.due("sitter(0, 5)", x.sitter(0, 5), -2);
            Check.due("sitter(3, 0)", x.sitter(3, 0), -2);
        });
    }

    private static void had() {
        Document.says("`int had(int sitter, int chair)`: What would be HAD by a SITTER in a CHAIR (OPEN or not, taken by another"
                + " one or not), all others as they SIT (the CHAIR in which he SITS himself now is not taken by that);", () -> {
                    DeckChairs x = Check.told("chair a stripes 0;chair b stripes 0;chair c stripes 0 shut 1 0 0;chair d stripes 0;"
                            + "sitter p purse 99 likes 1;sitter q purse 99 likes 2;had likes * 10 + alone;");
                    x.sit(0, 0);
                    int[] first = {11, 11, 11, 11};
                    int[] second = {21, 20, 21, 21};
                    for (int c = 0; c < 4; c++) {
                        Check.due("who SITS, in " + c, x.had(0, c), first[c]);
                        Check.due("who SITS in none, in " + c, x.had(1, c), second[c]);
                    }
                    x.sit(1, 3);
                    int[] then = {11, 11, 10, 11};
                    for (int c = 0; c < 4; c++) {
                        Check.due("all others as they SIT, in " + c, x.had(0, c), then[c]);
                    }
                });
        Document.says("NONE if one can't be.", () -> {
            DeckChairs x = twoWhoSit();
            for (int wrong : NO_NUMBERS) {
                Check.due("had(0, " + wrong + ")", x.had(0, wrong), -1);
                Check.due("had(" + wrong + ", 0)", x.had(wrong, 0), -1);
            }
            Check.due("had(3, 0)", x.had(3, 0), -1);
            Check.due("had(0, 4)", x.had(0, 4), -1);
        });
    }

    // ---- ACTS ----

    private static String state(DeckChairs x) {
        return Twins.look(x).replaceAll("about [67]: .*", "");
    }

    /** One more can be undone, none redone; undone, all is as it was. */
    private static void isAct(String what, Twins.Call act, long answer) {
        DeckChairs x = Twins.made(RICH);
        String then = state(x);
        Check.due(what, act.on(x), answer);
        Check.due(what + " can be undone", x.about(6), 8);
        Check.due(what + ": nothing can be redone", x.about(7), 0);
        Check.due("undo()", x.undo(), true);
        Twins.same(what + " undone", state(x), then);
    }

    private static void hour() {
        Document.says("`int hour()`: An HOUR: how much is paid;", () -> {
            DeckChairs x = Check.told("chair a stripes 0;chair b stripes 0;chair c stripes 0;sitter p purse 99 likes 1;"
                    + "sitter q purse 2 likes 2;sitter r purse 99 likes 3;had likes + 1;");
            Check.due("nobody SITS", x.hour(), 0);
            x.sit(2, 0);
            Check.due("one", x.hour(), 4);
            x.sit(0, 2);
            x.sit(1, 1);
            Check.due("two of three", x.hour(), 6);
            Check.due("the hour", x.about(4), 3);
        });
        Document.says("NONE, doing nothing, behind 999 of them.", () -> {
            Twins.Calls late = x -> {
                Check.tell(x, "chair a stripes 0;chair b stripes 0;sitter p purse 9 likes 1;had 0;gust 50;draw 1;");
                x.sit(0, 0);
                for (int i = 0; i < 999; i++) {
                    Check.due("hour " + i, x.hour(), 0);
                }
            };
            Twins.refused("the thousandth", late, x -> x.hour(), -1);
        });
        // ann HAS 3 and gets up; bob, alone then, has 7 less 5, 2 by his liking, 1 by SAT, the hour's 2.
        Document.says("(An ACT.)", () -> isAct("hour()", x -> x.hour(), 7));
    }

    private static void sitAndRise() {
        Document.says("`int sit(int sitter, int chair)`: He sits down: what would be HAD;", () -> {
            DeckChairs x = Check.told("chair a stripes 1;chair b stripes 2;sitter p purse 0 likes 3;sitter q purse 9 likes 4;");
            Check.due("5 and 2 alone, 2 less, 3 more", x.sit(0, 1), 8);
            Check.due("he SITS there", x.sitter(0, 2), 1);
            Check.due("there SITS he", x.chair(1, 2), 0);
            Check.due("5, 1 less, 4 more", x.sit(1, 0), 8);
            Check.due("taken", x.about(3), 3);
        });
        Document.says("NONE, doing nothing, if he SITS, the CHAIR is not OPEN, not free, or one can't be.", () -> {
            Twins.refused("he SITS", RICH, x -> x.sit(0, 0), -1);
            Twins.refused("he SITS there", RICH, x -> x.sit(0, 2), -1);
            Twins.refused("not OPEN", RICH, x -> x.sit(2, 1), -1);
            Twins.refused("not free", RICH, x -> x.sit(2, 2), -1);
            for (int wrong : NO_NUMBERS) {
                Twins.refused("sit(" + wrong + ", 0)", RICH, x -> x.sit(wrong, 0), -1);
                Twins.refused("sit(2, " + wrong + ")", RICH, x -> x.sit(2, wrong), -1);
            }
            Twins.refused("sit(3, 0)", RICH, x -> x.sit(3, 0), -1);
            Twins.refused("sit(2, 4)", RICH, x -> x.sit(2, 4), -1);
        });
        // 5 and 2 alone, 3 less by stripes, the hour's 2.
        Document.says("(An ACT.)", () -> isAct("sit(2, 0)", x -> x.sit(2, 0), 6));
        Document.says("`int rise(int sitter)`: He gets up: from which CHAIR;", () -> {
            DeckChairs x = twoWhoSit();
            Check.due("from the second one", x.rise(2), 1);
            Check.due("he SITS", x.sitter(2, 2), -1);
            Check.due("there SITS", x.chair(1, 2), -1);
            Check.due("from the last one", x.rise(0), 3);
            Check.due("taken", x.about(3), 0);
        });
        Document.says("NONE, doing nothing, if he SITS in none, or there is none such.", () -> {
            Twins.refused("he SITS in none", RICH, x -> x.rise(2), -1);
            Twins.refused("rise(3)", RICH, x -> x.rise(3), -1);
            for (int wrong : NO_NUMBERS) {
                Twins.refused("rise(" + wrong + ")", RICH, x -> x.rise(wrong), -1);
            }
        });
        Document.says("(An ACT.)", () -> isAct("rise(1)", x -> x.rise(1), 3));
    }

    private static void change() {
        Document.says("`int change(int sitter, int other)`: Two change: what would be HAD by all who SIT then, each by what is so"
                + " then;", () -> {
                    DeckChairs x = Check.told("chair a stripes 1;chair b stripes 2;chair c stripes 3;sitter p purse 99 likes 1;"
                            + "sitter q purse 99 likes 2;sitter r purse 99 likes 3;sitter s purse 99 likes 4;"
                            + "had stripes * likes + alone * 10 + sat * 20;");
                    x.sit(0, 0);
                    x.sit(1, 1);
                    x.hour();
                    x.sit(2, 2);
                    // 2 and 2, and 9 of who did not change; SAT 0 of those who did; nobody is alone.
                    Check.due("two of three", x.change(0, 1), 13);
                    Check.due("where", x.sitter(0, 2) * 100 + x.sitter(1, 2) * 10 + x.sitter(2, 2), 102);
                    x.hour();
                    // 3 and 6, and 2 and 20 of who SAT an hour.
                    Check.due("two others", x.change(2, 0), 31);
                    x.rise(0);
                    x.rise(2);
                    x.sit(0, 2);
                    Check.due("alone, both", x.change(1, 0), 10 + 1 + 10 + 6);
                });
        Document.says("NONE, doing nothing, if one SITS in none, both are one, or one can't be.", () -> {
            Twins.refused("the other one SITS in none", RICH, x -> x.change(0, 2), -1);
            Twins.refused("the one SITS in none", RICH, x -> x.change(2, 0), -1);
            Twins.refused("both are one", RICH, x -> x.change(0, 0), -1);
            Twins.refused("both are one who SITS in none", RICH, x -> x.change(2, 2), -1);
            for (int wrong : NO_NUMBERS) {
                Twins.refused("change(" + wrong + ", 0)", RICH, x -> x.change(wrong, 0), -1);
                Twins.refused("change(0, " + wrong + ")", RICH, x -> x.change(0, wrong), -1);
            }
            Twins.refused("change(0, 3)", RICH, x -> x.change(0, 3), -1);
        });
        // bob has 5 and 2 by his liking and the hour's 2; ann 5 and 4, 5 less, and the hour's 2.
        Document.says("(An ACT.)", () -> isAct("change(0, 1)", x -> x.change(0, 1), 9 + 6));
    }

    private static void moveAndFill() {
        Document.says("`int move(int chair, int move)`: A MOVE (0 .. 3): JOINTS as a number (16 the first one, 4 the second one,"
                + " and the third one);", () -> {
                    int[] want = {16 * 2 + 4 * 3 + 3, 16 + 4 + 0, 4 * 2 + 1, 16 * 2 + 4 * 3 + 0};
                    for (int m = 0; m < 4; m++) {
                        DeckChairs x = Check.told("chair a stripes 0;chair b stripes 0 shut 1 2 3;");
                        Check.due("move(1, " + m + ")", x.move(1, m), want[m]);
                        Check.due("JOINTS", x.chair(1, 4) * 16 + x.chair(1, 5) * 4 + x.chair(1, 6), want[m]);
                    }
                });
        Document.says("NONE, doing nothing, if somebody SITS there, or one can't be.", () -> {
            Twins.refused("ann SITS there", RICH, x -> x.move(2, 0), -1);
            Twins.refused("bob SITS there", RICH, x -> x.move(3, 3), -1);
            for (int wrong : NO_NUMBERS) {
                Twins.refused("move(" + wrong + ", 0)", RICH, x -> x.move(wrong, 0), -1);
                Twins.refused("move(0, " + wrong + ")", RICH, x -> x.move(0, wrong), -1);
            }
            Twins.refused("move(4, 0)", RICH, x -> x.move(4, 0), -1);
            Twins.refused("move(0, 4)", RICH, x -> x.move(0, 4), -1);
        });
        Document.says("(An ACT.)", () -> isAct("move(0, 2)", x -> x.move(0, 2), 48 + 2));
        Document.says("`int fill(int sitter, int more)`: A purse is filled (1 .. 99 more, 999 at most): what is in it;", () -> {
            DeckChairs x = Check.told("sitter p purse 0 likes 0;sitter q purse 5 likes 0;");
            Check.due("fill(1, 1)", x.fill(1, 1), 6);
            Check.due("fill(1, 99)", x.fill(1, 99), 105);
            Check.due("purses", x.sitter(0, 1) * 1000 + x.sitter(1, 1), 105);
            for (int i = 0; i < 9; i++) {
                Check.due("more", x.fill(1, 98), 105 + 98 * (i + 1));
            }
            Check.due("999 at most", x.fill(1, 99), 999);
        });
        Document.says("NONE, doing nothing, if there is 999, or one can't be.", () -> {
            Twins.refused("there is 999", x -> {
                RefusedTest.rich(x);
                for (int i = 0; i < 11; i++) {
                    x.fill(0, 99);
                }
            }, x -> x.fill(0, 1), -1);
            for (int wrong : NO_NUMBERS) {
                Twins.refused("fill(" + wrong + ", 1)", RICH, x -> x.fill(wrong, 1), -1);
            }
            for (int wrong : new int[] {MIN, -1, 0, 100, MAX}) {
                Twins.refused("fill(0, " + wrong + ")", RICH, x -> x.fill(0, wrong), -1);
            }
            Twins.refused("fill(3, 1)", RICH, x -> x.fill(3, 1), -1);
        });
        Document.says("(An ACT.)", () -> isAct("fill(2, 7)", x -> x.fill(2, 7), 106));
    }

    private static void undoAndRedo() {
        Document.says("`boolean undo()`: UNDO: true;", () -> {
            DeckChairs x = Check.told("sitter p purse 0 likes 0;");
            x.fill(0, 5);
            Check.due("undo()", x.undo(), true);
            Check.due("taken back", x.sitter(0, 1), 0);
        });
        Document.says("false if there is none.", () -> {
            Twins.refused("a new object", x -> { }, x -> x.undo() ? 1 : 0, 0);
            Twins.refused("all are taken back", x -> {
                RefusedTest.rich(x);
                for (int i = 0; i < 7; i++) {
                    x.undo();
                }
            }, x -> x.undo() ? 1 : 0, 0);
        });
        Document.says("`boolean redo()`: REDO: true;", () -> {
            DeckChairs x = Check.told("sitter p purse 0 likes 0;");
            x.fill(0, 5);
            x.undo();
            Check.due("redo()", x.redo(), true);
            Check.due("done again", x.sitter(0, 1), 5);
        });
        Document.says("false if there is none.", () -> {
            Twins.refused("a new object", x -> { }, x -> x.redo() ? 1 : 0, 0);
            Twins.refused("all are done again", x -> {
                RefusedTest.rich(x);
                x.redo();
                x.redo();
            }, x -> x.redo() ? 1 : 0, 0);
        });
    }
}
