/** Terms 4 of the document, sentence by sentence. */
public final class SentencesOfSeenTest {
    private static final String LIKING = "chair a stripes 1;chair b stripes 2 shut 1 2 3;chair c stripes 3;"
            + "sitter s purse 9 likes 0;sitter t purse 9 likes 5;had likes * stripes;";

    private SentencesOfSeenTest() {
    }

    public static void main(String[] args) throws Exception {
        toldAndUntold();
        ofWhat();
        knownAt();
        fitsAndAsk();
        constants();
        Document.quotedFrom("==== 4.", "## Promise 1:");
        Check.end("SentencesOfSeenTest");
    }

    private static void toldAndUntold() {
        Document.says("==== 4. SEEN, 30 at most,", () -> {
            DeckChairs x = Check.told(LIKING);
            for (int i = 0; i < 30; i++) {
                Check.due("SEEN " + i, x.seen(0, 1, true), i);
            }
            Check.due("one more", x.seen(0, 1, true), -1);
            Check.due("there are", x.about(8), 30);
        });
        Document.says("is TOLD at a TIME (0 at first, goes on), UNTOLD at a later one or the same,", () -> {
            DeckChairs x = Check.told(LIKING);
            Check.due("the TIME at first", x.about(9), 0);
            x.seen(0, 10, true);
            Check.due("TOLD at 0", x.fits(-1) * 100 + x.fits(0), 3121);
            Check.due("it goes on", x.later(4), 4);
            x.seen(0, 20, true);
            Check.due("TOLD at 4", x.fits(3) * 100 + x.fits(4), 2111);
            Check.due("UNTOLD at the same one", x.untell(1), true);
            Check.due("it never counts", x.fits(3) * 100 + x.fits(4), 2121);
            x.later(2);
            Check.due("UNTOLD at a later one", x.untell(0), true);
            Check.due("UNTOLD at 6", x.fits(5) * 100 + x.fits(6), 2131);
        });
    }

    private static void ofWhat() {
        Document.says("of the beach as it was told (hour 0, no SAND, nobody else there),", () -> {
            String text = "chair a stripes 0;chair b stripes 0;sitter s purse 99 likes 0;sitter t purse 99 likes 0;"
                    + "had alone * 50 + hour * 7 + sand * 7 + sat * 7 + likes;";
            DeckChairs x = Check.told(text);
            x.sit(0, 0);
            x.sit(1, 1);
            x.hour();
            x.seen(1, 60, true);
            x.seen(1, 61, false);
            Check.due("alone, and nothing more: 50 and his liking", x.sure(0, 0) * 100 + x.sure(1, 0), 1010);
            x.rise(0);
            x.hour();
            x.move(0, 3);
            Check.due("whatever is done", x.sure(0, 0) * 100 + x.sure(1, 0), 1010);
        });
        Document.says("but for what the last SITTER likes, which is not known:", () -> {
            for (int likes = 0; likes <= 9; likes++) {
                DeckChairs x = Check.told("chair a stripes 0;sitter s purse 0 likes 7;sitter t purse 0 likes " + likes + ";had likes;");
                Check.due("what is told of him does not count", x.fits(0), 31);
                x.seen(0, 20, true);
                Check.due("nor then", x.fits(0), 11);
            }
        });
        Document.says("that he would have so much at least in a CHAIR (OPEN or not) in his first hour, or would not.", () -> {
            for (int much = 0; much <= 99; much++) {
                for (int c = 0; c < 3; c++) {
                    DeckChairs x = Check.told(LIKING);
                    x.seen(c, much, true);
                    DeckChairs y = Check.told(LIKING);
                    y.seen(c, much, false);
                    int fit = 0;
                    for (int liking = 0; liking <= 30; liking++) {
                        fit += Math.min(99, liking * (c + 1)) >= much ? 1 : 0;
                    }
                    Check.due("at least " + much + " in " + c, x.fits(0), fit);
                    Check.due("not " + much + " in " + c, y.fits(0), 31 - fit);
                }
            }
            // In his first hour: he SAT 0, though he SAT 2 now.
            DeckChairs z = Check.told("chair a stripes 0;sitter s purse 99 likes 0;had likes + sat * 9;");
            z.sit(0, 0);
            z.hour();
            z.hour();
            z.seen(0, 9, false);
            Check.due("0 to 8", z.fits(0), 9);
        });
    }

    private static void knownAt() {
        Document.says("As known at k that counts that was TOLD at k or before, not UNTOLD at k or before.", () -> {
            // Each is TOLD at one of 0 .. 4 and UNTOLD at one of these or never; it leaves out one liking for itself.
            for (int told = 0; told <= 4; told++) {
                for (int untold = told; untold <= 5; untold++) {
                    DeckChairs x = Check.told("chair a stripes 0;sitter s purse 9 likes 0;had likes;");
                    x.later(told);
                    x.seen(0, 30, false);
                    x.later(untold - told);
                    if (untold < 5) {
                        x.untell(0);
                    }
                    x.later(3);
                    for (int k = -2; k <= 9; k++) {
                        boolean counts = told <= k && !(untold < 5 && untold <= k);
                        Check.due("TOLD at " + told + ", UNTOLD at " + untold + ", known at " + k, x.fits(k), counts ? 30 : 31);
                    }
                }
            }
        });
    }

    private static void fitsAndAsk() {
        Document.says("FITS: likings (0 .. 30) by which all that counts is so.", () -> {
            DeckChairs x = Check.told(LIKING);
            Check.due("nothing is SEEN", x.fits(0), 31);
            Check.due("from 0", x.sure(0, 0), 0);
            Check.due("to 30", x.sure(1, 0), 30);
            x.seen(0, 10, true);
            x.seen(1, 31, false);
            Check.due("10 to 15", x.fits(0), 6);
            x.seen(2, 40, true);
            Check.due("14 and 15", x.fits(0) * 10000 + x.sure(0, 0) * 100 + x.sure(1, 0), 21415);
            x.seen(0, 15, false);
            Check.due("14", x.fits(0), 1);
            x.seen(0, 14, false);
            Check.due("none", x.fits(0), 0);
            DeckChairs y = Check.told("chair a stripes 0;sitter s purse 9 likes 0;had 5 + likes;");
            y.seen(0, 5, true);
            Check.due("0, too", y.fits(0), 31);
            y.seen(0, 6, false);
            Check.due("0 alone", y.fits(0) * 100 + y.sure(0, 0) * 10 + y.sure(1, 0), 100);
        });
        Document.says("ASK: the CHAIR of which to know how much he would have there would leave the fewest of these at the most;",
                () -> {
                    // By halves 2 are left of 31, by thirds 3; by the rest of 5 at the most 7.
                    DeckChairs x = Check.told("chair a stripes 5;chair b stripes 3;chair c stripes 2;chair d stripes 4;"
                            + "sitter s purse 9 likes 0;had likes / stripes * (stripes < 5) + likes % stripes * (stripes = 5);");
                    Check.due("halves", x.ask(0, 0) * 100 + x.ask(1, 0), 202);
                    x.seen(1, 2, false);
                    // 0 to 5 are left: each rest of 5 but for 0 once, halves and thirds.
                    Check.due("the rest of 5 leaves 2, and it is the first one", x.ask(0, 0) * 100 + x.ask(1, 0), 2);
                    x.seen(0, 1, true);
                    Check.due("1 to 4 are all parted by it", x.ask(0, 0) * 100 + x.ask(1, 0), 1);
                    // At the most counts, not on the whole: 16 and 15 are better than 20 and eleven times 1.
                    DeckChairs y = Check.told("chair a stripes 0;chair b stripes 1;sitter s purse 9 likes 0;"
                            + "had (stripes = 0) * (likes > 19) * likes + (stripes = 1) * (likes > 15);");
                    Check.due("two parts alike", y.ask(0, 0) * 100 + y.ask(1, 0), 116);
                    // 99 is had from 19 on, 98 by 18.
                    DeckChairs z = Check.told("chair a stripes 0;sitter s purse 9 likes 0;had 80 + likes;");
                    Check.due("twelve of 99", z.ask(0, 0) * 100 + z.ask(1, 0), 12);
                    z.seen(0, 99, false);
                    Check.due("each by itself", z.ask(1, 0), 1);
                });
        Document.says("of like ones the first.", () -> {
            DeckChairs x = Check.told("chair a stripes 3;chair b stripes 2;chair c stripes 2;sitter s purse 9 likes 0;had likes / stripes;");
            Check.due("the second one, not the third one", x.ask(0, 0), 1);
            Check.due("all alike", Check.told("chair a stripes 3;chair b stripes 2;sitter s purse 9 likes 0;had 1;").ask(0, 0), 0);
        });
    }

    private static void constants() {
        Document.says("The constants: `NONE = -1`: There is none.", () -> {
            Check.due("NONE", DeckChairs.NONE, -1);
            DeckChairs x = new DeckChairs();
            Check.due("there is no CHAIR with most SAND", x.throne(), DeckChairs.NONE);
            Check.due("there is nobody who SITS", x.veteran(), DeckChairs.NONE);
            Check.due("there is no SITTER", x.richest(), DeckChairs.NONE);
        });
    }
}
