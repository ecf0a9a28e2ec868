/** Terms 2 of the document, sentence by sentence. */
public final class SentencesOfActsTest {
    private static final String THREE = "chair a stripes 0;chair b stripes 1;chair c stripes 2;"
            + "sitter s purse 60 likes 0;sitter t purse 70 likes 1;sitter u purse 80 likes 2;";
    private static final String ONE = "chair a stripes 3;sitter s purse 50 likes 4;";

    private SentencesOfActsTest() {
    }

    public static void main(String[] args) throws Exception {
        chairsAndSitters();
        whatIsHad();
        hours();
        moves();
        acts();
        undoAndRedo();
        Document.quotedFrom("==== 2.", "==== 3.");
        Check.end("SentencesOfActsTest");
    }

    private static int joints(DeckChairs x, int chair) {
        return x.chair(chair, 4) * 100 + x.chair(chair, 5) * 10 + x.chair(chair, 6);
    }

    // ---- what there is ----

    private static void chairsAndSitters() {
        Document.says("==== 2. A CHAIR has three JOINTS (as told, at first); it is OPEN if all are 0.", () -> {
            for (int n = 0; n < 64; n++) {
                DeckChairs x = Check.told("chair z stripes 0 shut 3 2 1;chair a stripes 0 shut " + n / 16 + " " + n / 4 % 4
                        + " " + n % 4 + ";");
                Check.due("JOINTS of " + n, joints(x, 1), n / 16 * 100 + n / 4 % 4 * 10 + n % 4);
                Check.due("OPEN, " + n, x.chair(1, 3), n == 0 ? 1 : 0);
                Check.due("the one before it", joints(x, 0), 321);
                Check.due("OPEN ones, " + n, x.about(2), n == 0 ? 2 : 0);
            }
        });
        Document.says("It has so much SAND (0 at first).", () -> {
            DeckChairs x = Check.told(THREE);
            Check.due("at first", x.chair(0, 1) + x.chair(1, 1) + x.chair(2, 1), 0);
            x.sit(1, 2);
            x.hour();
            Check.due("then", x.chair(0, 1) * 100 + x.chair(1, 1) * 10 + x.chair(2, 1), 1);
        });
        Document.says("A SITTER SITS in an OPEN CHAIR, or in none (at first), one at most in each;", () -> {
            DeckChairs x = Check.told(THREE + "chair d stripes 0 shut 1 0 0;");
            for (int s = 0; s < 3; s++) {
                Check.due("in none at first", x.sitter(s, 2), -1);
            }
            Check.due("in a shut one", x.sit(0, 3), -1);
            Check.due("in an OPEN one", x.sit(0, 1) >= 0, true);
            Check.due("he SITS there", x.sitter(0, 2), 1);
            Check.due("another one in it", x.sit(1, 1), -1);
            Check.due("he stays in none", x.sitter(1, 2), -1);
            Check.due("he in another one, too", x.sit(0, 2), -1);
        });
        Document.says("he SAT so many hours in the CHAIR in which he SITS (0 at first, and whenever he sits down),", () -> {
            DeckChairs x = Check.told(THREE + "had 1;");
            x.sit(0, 1);
            Check.due("at first", x.sitter(0, 3), 0);
            x.hour();
            x.hour();
            Check.due("two hours", x.sitter(0, 3), 2);
            x.rise(0);
            x.sit(0, 1);
            Check.due("he sat down again", x.sitter(0, 3), 0);
            x.hour();
            Check.due("an hour", x.sitter(0, 3), 1);
            Check.due("who SITS in none", x.sitter(1, 3), 0);
        });
        Document.says("HAS a purse (as told, at first),", () -> {
            DeckChairs x = Check.told(THREE);
            Check.due("as told", x.sitter(0, 1) * 10000 + x.sitter(1, 1) * 100 + x.sitter(2, 1), 607080);
            x.sit(1, 0);
            x.hour();
            // 5 and 2 alone and 1 by his liking are paid.
            Check.due("then", x.sitter(0, 1) * 10000 + x.sitter(1, 1) * 100 + x.sitter(2, 1), 606280);
        });
        Document.says("HAD so much in all (0 at first).", () -> {
            DeckChairs x = Check.told(THREE);
            Check.due("at first", x.sitter(0, 4) + x.sitter(1, 4) + x.sitter(2, 4), 0);
            x.sit(1, 0);
            x.hour();
            x.rise(1);
            x.sit(1, 2);
            x.hour();
            Check.due("8 there and 6 here", x.sitter(1, 4), 14);
            Check.due("others", x.sitter(0, 4) + x.sitter(2, 4), 0);
        });
    }

    // ---- what is HAD ----

    private static int value(String formula) {
        return Check.told(ONE + "had " + formula + ";").had(0, 0);
    }

    private static void whatIsHad() {
        Document.says("What would be HAD by a SITTER in a CHAIR, some CHAIRS being taken: what comes of had"
                + " (5 + alone * 2 - stripes + likes, if it is not told)", () -> {
                    for (int stripes = 0; stripes <= 9; stripes++) {
                        for (int likes = 0; likes <= 9; likes++) {
                            DeckChairs x = Check.told("chair a stripes 0;chair b stripes " + stripes
                                    + ";sitter s purse 0 likes 0;sitter t purse 0 likes " + likes + ";");
                            Check.due("alone", x.had(1, 1), Math.max(0, 7 - stripes + likes));
                            x.sit(0, 0);
                            Check.due("with somebody", x.had(1, 1), Math.max(0, 5 - stripes + likes));
                        }
                    }
                    Check.due("if it is told", value("42"), 42);
                });
        Document.says("by stripes, likes, alone (1 if no CHAIR next to it in the row is taken, else 0),", () -> {
            Check.due("stripes", value("stripes"), 3);
            Check.due("likes", value("likes"), 4);
            DeckChairs x = Check.told("chair a stripes 0;chair b stripes 0;chair c stripes 0;chair d stripes 0;"
                    + "chair e stripes 0;sitter s purse 9 likes 0;sitter t purse 9 likes 0;sitter u purse 9 likes 0;had alone;");
            int[] aloneBy = {29, 26, 21, 11, 23};
            for (int c = 0; c < 5; c++) {
                x.sit(0, c);
                int alone = 0;
                for (int d = 0; d < 5; d++) {
                    alone |= x.had(1, d) << d;
                }
                Check.due("alone, " + c + " being taken", alone, aloneBy[c]);
                x.rise(0);
            }
            x.sit(0, 0);
            x.sit(1, 2);
            Check.due("between two", x.had(2, 1), 0);
            Check.due("next to one", x.had(2, 3), 0);
            Check.due("next to none", x.had(2, 4), 1);
            Check.due("a taken one next to none", x.had(2, 0), 1);
            x.move(3, 0);
            x.move(4, 0);
            Check.due("next to a shut one", x.had(2, 4), 1);
        });
        Document.says("sat (how long he SAT, if he SITS there, else 0), sand (of the CHAIR), hour (0 at first;", () -> {
            DeckChairs x = Check.told("chair a stripes 0;chair b stripes 0;sitter s purse 99 likes 0;sitter t purse 99 likes 0;"
                    + "had sat * 36 + sand * 6 + hour;");
            Check.due("at first", x.had(0, 0), 0);
            x.hour();
            Check.due("an hour later", x.had(0, 0), 1);
            x.sit(0, 0);
            x.hour();
            Check.due("SAT 1, SAND 1, hour 2", x.had(0, 0), 44);
            Check.due("another CHAIR", x.had(0, 1), 2);
            Check.due("another SITTER", x.had(1, 0), 8);
            x.rise(0);
            Check.due("he got up", x.had(0, 0), 8);
        });
        Document.says("ints, wrapping; / cut, % its rest, both by 0: 0;", () -> {
            Check.due("2 ^ 31 is below 0", value("8192 * 8192 * 32 < 0"), 1);
            Check.due("2 ^ 32 is 0", value("8192 * 8192 * 64"), 0);
            Check.due("2 ^ 31 and one less", value("8192 * 8192 * 32 - 1 > 0"), 1);
            Check.due("7 / 2", value("7 / 2"), 3);
            Check.due("-7 / 2", value("(0 - 7) / 2 + 50"), 47);
            Check.due("7 / -2", value("7 / (0 - 2) + 50"), 47);
            Check.due("-7 / -2", value("(0 - 7) / (0 - 2)"), 3);
            Check.due("7 % 4", value("7 % 4"), 3);
            Check.due("-7 % 4", value("(0 - 7) % 4 + 50"), 47);
            Check.due("7 % -4", value("7 % (0 - 4) + 50"), 53);
            Check.due("by 0", value("7 / 0 + 50"), 50);
            Check.due("by 0", value("7 % 0 + 50"), 50);
            Check.due("by what is 0", value("7 / (likes - 4) + 7 % (stripes - 3) + 50"), 50);
            Check.due("the least by -1", value("(8192 * 8192 * 32) / (0 - 1) = 8192 * 8192 * 32"), 1);
            Check.due("the least's rest by -1", value("(8192 * 8192 * 32) % (0 - 1)"), 0);
        });
        Document.says("relations, and, or, not are 1 or 0, of what is not 0), 0 at least, 99 at most.", () -> {
            String[] numbers = {"0", "1", "7", "(0 - 5)"};
            int[] are = {0, 1, 7, -5};
            for (int i = 0; i < 4; i++) {
                for (int k = 0; k < 4; k++) {
                    String a = numbers[i];
                    String b = numbers[k];
                    Check.due(a + " < " + b, value(a + " < " + b), are[i] < are[k] ? 1 : 0);
                    Check.due(a + " > " + b, value(a + " > " + b), are[i] > are[k] ? 1 : 0);
                    Check.due(a + " = " + b, value(a + " = " + b), are[i] == are[k] ? 1 : 0);
                    Check.due(a + " and " + b, value(a + " and " + b), are[i] * are[k] != 0 ? 1 : 0);
                    Check.due(a + " or " + b, value(a + " or " + b), are[i] == 0 && are[k] == 0 ? 0 : 1);
                }
                Check.due("not " + numbers[i], value("not " + numbers[i]), are[i] == 0 ? 1 : 0);
            }
            Check.due("-1", value("0 - 1"), 0);
            Check.due("-9999", value("0 - 9999"), 0);
            Check.due("98", value("98"), 98);
            Check.due("99", value("99"), 99);
            Check.due("100", value("100"), 99);
            Check.due("9999", value("9999"), 99);
            // Just what comes of the whole is held to that.
            Check.due("more within", value("200 - 150"), 50);
            Check.due("less within", value("(0 - 50) + 80"), 30);
        });
    }

    // ---- HOURS ----

    private static int next(int seed, int times) {
        int then = seed;
        for (int i = 0; i < times; i++) {
            then = (then * 137 + 71) % 1000;
        }
        return then;
    }

    private static void hours() {
        Document.says("An HOUR: SITTER by SITTER who SITS, by what is so then:", () -> {
            // Beside one another each has 5, alone 9; the first one HAS 4 and gets up, so the second one is alone.
            String text = "chair a stripes 0;chair b stripes 0;sitter s purse 4 likes 0;sitter t purse 30 likes 0;had 5 + alone * 4;";
            DeckChairs x = Check.told(text);
            x.sit(0, 0);
            x.sit(1, 1);
            Check.due("the second one pays as one alone", x.hour(), 9);
            // The other way round the first one has paid for two already.
            DeckChairs y = Check.told(text.replace("purse 4", "purse 31").replace("purse 30", "purse 4"));
            y.sit(0, 1);
            y.sit(1, 0);
            Check.due("the first one pays as one of two", y.hour(), 5);
            Check.due("he HAS", y.sitter(0, 1), 26);
            Check.due("then as one alone", y.hour(), 9);
            DeckChairs z = Check.told(text);
            Check.due("who SITS in none does not pay", z.hour(), 0);
        });
        Document.says("if his purse holds what is HAD (CHAIRS in which SITTERS SIT then being taken), he pays it, HAD that"
                + " more (9,999 at most), SAT an hour more, the CHAIR has 1 more SAND (99 at most);",
                SentencesOfActsTest::paying);
        Document.says("else he gets up, paying nothing.", () -> {
            DeckChairs x = Check.told(ONE + "had 30;");
            x.sit(0, 0);
            x.hour();
            Check.due("he can't", x.hour(), 0);
            Check.due("his purse", x.sitter(0, 1), 20);
            Check.due("he HAD", x.sitter(0, 4), 30);
            Check.due("he SITS", x.sitter(0, 2), -1);
            Check.due("SAT", x.sitter(0, 3), 0);
            Check.due("SAND", x.chair(0, 1), 1);
            Check.due("nobody SITS there", x.chair(0, 2), -1);
        });
        Document.says("Then, CHAIR by CHAIR that is OPEN and in which nobody SITS, the SEED (draw, at first) becomes its"
                + " 137-fold and 71 more, modulo 1,000;", () -> {
                    DeckChairs x = Check.told("chair a stripes 0;chair b stripes 0 shut 0 1 0;chair c stripes 0;chair d stripes 0;"
                            + "sitter s purse 5 likes 0;had 5;draw 123;");
                    Check.due("draw, at first", x.about(5), 123);
                    x.hour();
                    Check.due("three are OPEN", x.about(5), next(123, 3));
                    x.sit(0, 2);
                    x.hour();
                    Check.due("he SITS in one of them", x.about(5), next(123, 5));
                    x.hour();
                    Check.due("he got up in that HOUR", x.about(5), next(123, 8));
                    Check.due("123, 922, 385, 816", next(123, 3), 816);
                });
        Document.says("if its rest by 100 is less than gust tells, it shuts: its JOINTS are 1, 2, 3.", () -> {
            // 123 becomes 922, 385, 816: rests 22, 85 and 16.
            int[] gusts = {16, 17, 22, 23, 85, 86};
            int[] open = {7, 3, 3, 2, 2, 0};
            for (int i = 0; i < gusts.length; i++) {
                DeckChairs x = Check.told("chair a stripes 0;chair b stripes 0;chair c stripes 0;draw 123;gust " + gusts[i] + ";");
                x.hour();
                Check.due("OPEN ones by gust " + gusts[i], x.about(2), open[i]);
                for (int c = 0; c < 3; c++) {
                    Check.due("JOINTS of " + c, joints(x, c), (open[i] >> c & 1) == 1 ? 0 : 123);
                }
            }
        });
        Document.says("The hour goes up by 1.", () -> {
            DeckChairs x = Check.told(ONE + "had 10 + hour;");
            x.sit(0, 0);
            Check.due("it is 0 in the first one", x.hour(), 10);
            Check.due("then 1", x.about(4), 1);
            Check.due("it is 1 in the second one", x.hour(), 11);
            Check.due("then 2", x.about(4), 2);
        });
    }

    private static void paying() {
        DeckChairs x = Check.told("chair a stripes 0;chair b stripes 0;chair c stripes 0;sitter s purse 60 likes 0;"
                + "sitter t purse 30 likes 0;sitter u purse 29 likes 0;had 30 - alone * 10;");
        x.sit(0, 0);
        x.sit(1, 1);
        x.sit(2, 2);
        // The last one would need one more: he gets up when the others have paid.
        Check.due("30 and 30", x.hour(), 60);
        Check.due("purses", x.sitter(0, 1) * 10000 + x.sitter(1, 1) * 100 + x.sitter(2, 1), 300029);
        Check.due("HAD", x.sitter(0, 4) * 10000 + x.sitter(1, 4) * 100 + x.sitter(2, 4), 303000);
        Check.due("SAT", x.sitter(0, 3) * 100 + x.sitter(1, 3) * 10 + x.sitter(2, 3), 110);
        Check.due("SAND", x.chair(0, 1) * 100 + x.chair(1, 1) * 10 + x.chair(2, 1), 110);
        Check.due("taken", x.about(3), 3);
        Check.due("the first one can, the second one can't", x.hour(), 30);
        Check.due("HAD that more", x.sitter(0, 4), 60);
        DeckChairs y = Check.told(ONE + "had 99;");
        y.sit(0, 0);
        y.fill(0, 99);
        for (int i = 0; i < 103; i++) {
            Check.due("he pays", y.hour(), 99);
            y.fill(0, 99);
            Check.due("he HAD", y.sitter(0, 4), Math.min(9999, 99 * (i + 1)));
            Check.due("SAND", y.chair(0, 1), Math.min(99, i + 1));
            Check.due("SAT", y.sitter(0, 3), i + 1);
        }
    }

    // ---- MOVES ----

    private static void everyMove(int move, int first, int second, int third) {
        for (int n = 0; n < 64; n++) {
            int a = n / 16;
            int b = n / 4 % 4;
            int c = n % 4;
            DeckChairs x = Check.told("chair a stripes 0 shut " + a + " " + b + " " + c + ";chair b stripes 0;");
            int want = (a + first + 4) % 4 * 16 + (b + second + 4) % 4 * 4 + (c + third + 4) % 4;
            Check.due("MOVE " + move + " of " + n, x.move(0, move), want);
            Check.due("its JOINTS", joints(x, 0), want / 16 * 100 + want / 4 % 4 * 10 + want % 4);
            Check.due("the other one's", joints(x, 1), 0);
        }
    }

    private static void moves() {
        Document.says("MOVES of a CHAIR: 0: the first JOINT 1 more, the second one 1 more;", () -> everyMove(0, 1, 1, 0));
        Document.says("1: the second one 1 less, the third one 1 more;", () -> everyMove(1, 0, -1, 1));
        Document.says("2: the third one 2 more, the first one 1 less;", () -> everyMove(2, -1, 0, 2));
        Document.says("3: all 1 more (each modulo 4).", () -> everyMove(3, 1, 1, 1));
    }

    // ---- ACTS ----

    /** The call is an ACT: it can be undone and redone, and what can't be done is none. */
    private static void isAct(String what, Twins.Calls before, Twins.Call act) {
        DeckChairs x = Twins.made(before);
        int acts = x.about(6);
        String then = state(x);
        Check.due(what + " is done", act.on(x) >= 0, true);
        Check.due(what + " is an ACT", x.about(6), acts + 1);
        String done = state(x);
        Check.due(what + " does something", done.equals(then), false);
        Check.due(what + " is undone", x.undo(), true);
        Twins.same(what + " undone", state(x), then);
        Check.due(what + " is redone", x.redo(), true);
        Twins.same(what + " redone", state(x), done);
    }

    private static void isNone(String what, Twins.Calls before, Twins.Call act) {
        Twins.refused(what, before, act, -1);
    }

    private static String state(DeckChairs x) {
        return Twins.look(x).replaceAll("about [67]: .*", "");
    }

    private static void acts() {
        Twins.Calls two = x -> {
            Check.tell(x, THREE + "chair d stripes 0;chair e stripes 0 shut 0 0 1;draw 5;");
            x.sit(0, 0);
            x.sit(1, 1);
            x.hour();
        };
        Document.says("ACTS: an HOUR;", () -> isAct("hour()", two, x -> x.hour()));
        Document.says("a SITTER who SITS in none sits down in an OPEN CHAIR that is free;", () -> {
            isAct("sit(2, 3)", two, x -> x.sit(2, 3));
            isNone("one who SITS", two, x -> x.sit(0, 3));
            isNone("in a shut one", two, x -> x.sit(2, 4));
            isNone("in a taken one", two, x -> x.sit(2, 1));
        });
        Document.says("one gets up;", () -> {
            isAct("rise(1)", two, x -> x.rise(1));
            isNone("one who SITS in none", two, x -> x.rise(2));
        });
        Document.says("two who SIT change CHAIRS (both SAT 0 then);", () -> {
            isAct("change(0, 1)", two, x -> x.change(0, 1));
            isNone("one who SITS in none", two, x -> x.change(0, 2));
            DeckChairs x = Twins.made(two);
            x.sit(2, 3);
            x.hour();
            Check.due("SAT before", x.sitter(0, 3) * 100 + x.sitter(1, 3) * 10 + x.sitter(2, 3), 221);
            x.change(0, 1);
            Check.due("their CHAIRS", x.sitter(0, 2) * 100 + x.sitter(1, 2) * 10 + x.sitter(2, 2), 103);
            Check.due("SAT then", x.sitter(0, 3) * 100 + x.sitter(1, 3) * 10 + x.sitter(2, 3), 1);
        });
        Document.says("a MOVE of a CHAIR in which nobody SITS;", () -> {
            isAct("move(3, 0)", two, x -> x.move(3, 0));
            isAct("move(4, 1)", two, x -> x.move(4, 1));
            isNone("in which somebody SITS", two, x -> x.move(0, 0));
        });
        Document.says("a purse is filled.", () -> {
            isAct("fill(0, 5)", two, x -> x.fill(0, 5));
            isAct("fill(2, 5)", two, x -> x.fill(2, 5));
        });
    }

    private static void undoAndRedo() {
        Document.says("UNDO takes back the latest ACT that was not,", () -> {
            DeckChairs x = Check.told(THREE);
            x.fill(0, 1);
            x.fill(1, 1);
            x.fill(2, 1);
            Check.due("the third one", x.undo(), true);
            Check.due("purses", x.sitter(0, 1) * 10000 + x.sitter(1, 1) * 100 + x.sitter(2, 1), 617180);
            Check.due("the second one", x.undo(), true);
            Check.due("purses", x.sitter(0, 1) * 10000 + x.sitter(1, 1) * 100 + x.sitter(2, 1), 617080);
            Check.due("the first one", x.undo(), true);
            Check.due("purses", x.sitter(0, 1) * 10000 + x.sitter(1, 1) * 100 + x.sitter(2, 1), 607080);
            Check.due("no other one", x.undo(), false);
        });
        Document.says("REDO does that again which was taken back last (till another ACT);", () -> {
            DeckChairs x = Check.told(THREE);
            x.fill(0, 1);
            x.fill(1, 1);
            x.fill(2, 1);
            x.undo();
            x.undo();
            Check.due("the second one", x.redo(), true);
            Check.due("purses", x.sitter(0, 1) * 10000 + x.sitter(1, 1) * 100 + x.sitter(2, 1), 617180);
            Check.due("the third one", x.redo(), true);
            Check.due("purses", x.sitter(0, 1) * 10000 + x.sitter(1, 1) * 100 + x.sitter(2, 1), 617181);
            Check.due("none", x.redo(), false);
            x.undo();
            x.hour();
            Check.due("behind another ACT", x.redo(), false);
            Check.due("purses", x.sitter(0, 1) * 10000 + x.sitter(1, 1) * 100 + x.sitter(2, 1), 617180);
        });
        Document.says("40 at most are kept, the oldest go.", () -> {
            DeckChairs x = Check.told(THREE);
            for (int i = 1; i <= 43; i++) {
                x.hour();
                Check.due("kept behind " + i, x.about(6), Math.min(40, i));
            }
            for (int i = 0; i < 40; i++) {
                Check.due("undo() " + i, x.undo(), true);
            }
            Check.due("three are gone", x.undo(), false);
            Check.due("the hour behind these", x.about(4), 3);
            for (int i = 0; i < 40; i++) {
                Check.due("redo() " + i, x.redo(), true);
            }
            Check.due("the hour behind all", x.about(4), 43);
        });
    }
}
