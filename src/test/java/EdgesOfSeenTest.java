/** Terms 4, promises 42 to 50: what is SEEN and known when, images, and what about() tells. */
public final class EdgesOfSeenTest {
    private static final int MIN = Integer.MIN_VALUE;
    private static final int MAX = Integer.MAX_VALUE;
    private static final String ONE = "chair a stripes 0;sitter s purse 9 likes 5;";
    private static final String FIVE = "chair a stripes 1;chair b stripes 2;chair c stripes 3;chair d stripes 4;chair e stripes 5;"
            + "sitter s purse 9 likes 5;sitter t purse 9 likes 7;";

    private EdgesOfSeenTest() {
    }

    public static void main(String[] args) {
        thirtySeen();
        muchOf0To99();
        ofAChairThatIs();
        ofEachChair();
        withoutSitters();
        soMuchAtLeast();
        likings0To30();
        ofTheBeachAsItWasTold();
        toldAtAndUntoldAt();
        toldAndUntoldAtOneTime();
        untoldOnce();
        later0To1000();
        timeUpTo100000();
        timeStaysOverBeaches();
        sureOfWhatFits();
        askOfLikeOnes();
        askWhoCanBe();
        boxes0To2();
        whatAnImageKeeps();
        boxesAndBeaches();
        about0To13();
        Check.end("EdgesOfSeenTest");
    }

    private static void thirtySeen() {
        DeckChairs x = Check.told(FIVE);
        for (int i = 0; i < 30; i++) {
            Check.due("how many before", x.about(8), i);
            Check.due("its number", x.seen(i % 5, 0, true), i);
        }
        Check.due("there are 30", x.about(8), 30);
        Check.due("the 31st", x.seen(0, 0, true), -1);
        Check.due("there are 30 still", x.about(8), 30);
        Check.due("the last one can be UNTOLD", x.untell(29), true);
        Check.due("one behind it is none", x.untell(30), false);
        Check.tell(x, FIVE);
        Check.due("another BEACH: nothing is SEEN", x.about(8), 0);
        Check.due("numbers begin anew", x.seen(0, 0, true), 0);
    }

    private static void muchOf0To99() {
        DeckChairs x = Check.told(ONE);
        for (int much : new int[] {MIN, -1, 100, MAX}) {
            Check.due("seen(0, " + much + ", true)", x.seen(0, much, true), -1);
            Check.due("seen(0, " + much + ", false)", x.seen(0, much, false), -1);
        }
        Check.due("seen(0, 0, true)", x.seen(0, 0, true), 0);
        Check.due("all have 0 at least", x.fits(0), 31);
        Check.due("seen(0, 99, false)", x.seen(0, 99, false), 1);
        Check.due("none has 99", x.fits(0), 31);
        Check.due("seen(0, 0, false)", x.seen(0, 0, false), 2);
        Check.due("none has less than 0", x.fits(0), 0);
        x.untell(2);
        Check.due("seen(0, 99, true)", x.seen(0, 99, true), 3);
        Check.due("none has 99", x.fits(0), 0);
        DeckChairs y = Check.told(ONE + "had 200;");
        y.seen(0, 99, true);
        Check.due("99 at most: all have 99", y.fits(0), 31);
    }

    private static void ofAChairThatIs() {
        DeckChairs x = Check.told(FIVE);
        for (int c : new int[] {MIN, -1, 5, MAX}) {
            Check.due("seen(" + c + ", 0, true)", x.seen(c, 0, true), -1);
        }
        Check.due("the first one", x.seen(0, 0, true), 0);
        Check.due("the last one", x.seen(4, 0, true), 1);
        DeckChairs y = Check.told("chair a stripes 0 shut 1 1 1;sitter s purse 9 likes 0;");
        Check.due("a shut one", y.seen(0, 17, true), 0);
        Check.due("it would be 7 and the liking there", y.sure(0, 0), 10);
        DeckChairs z = Check.told(FIVE);
        z.sit(0, 2);
        Check.due("a taken one", z.seen(2, 1, true), 0);
    }

    private static void ofEachChair() {
        for (int c = 0; c < 5; c++) {
            DeckChairs x = Check.told(FIVE + "had likes * stripes;");
            x.seen(c, 20, true);
            int least = (20 + c) / (c + 1);
            Check.due("20 at least by " + (c + 1) + " stripes", x.sure(0, 0), least);
            x.seen(4 - c, 20, true);
            Check.due("and in another one", x.sure(0, 0), Math.max(least, (24 - c) / (5 - c)));
        }
    }

    private static void withoutSitters() {
        DeckChairs x = Check.told("chair a stripes 0;");
        Check.due("no SITTERS", x.seen(0, 0, true), -1);
        Check.due("fits()", x.fits(0), 0);
        Check.due("sure(0)", x.sure(0, 0), -1);
        Check.due("sure(1)", x.sure(1, 0), -1);
        Check.due("ask(0)", x.ask(0, 0), -1);
        Check.due("ask(1)", x.ask(1, 0), -1);
        DeckChairs y = Check.told("sitter s purse 0 likes 0;");
        Check.due("no CHAIRS: seen()", y.seen(0, 0, true), -1);
        Check.due("no CHAIRS: fits()", y.fits(0), 31);
        Check.due("no CHAIRS: sure(0)", y.sure(0, 0), 0);
        Check.due("no CHAIRS: sure(1)", y.sure(1, 0), 30);
        Check.due("no CHAIRS: ask(0)", y.ask(0, 0), -1);
        Check.due("no CHAIRS: ask(1)", y.ask(1, 0), -1);
    }

    private static void soMuchAtLeast() {
        for (int much = 0; much <= 32; much++) {
            DeckChairs x = Check.told(ONE + "had likes;");
            x.seen(0, much, true);
            Check.due("at least " + much, x.fits(0), Math.max(0, 31 - much));
            Check.due("the least", x.sure(0, 0), much > 30 ? -1 : much);
            DeckChairs y = Check.told(ONE + "had likes;");
            y.seen(0, much, false);
            Check.due("not " + much, y.fits(0), Math.min(31, much));
            Check.due("the greatest", y.sure(1, 0), much == 0 ? -1 : Math.min(30, much - 1));
        }
    }

    private static void likings0To30() {
        for (int liking = 0; liking <= 31; liking++) {
            DeckChairs x = Check.told(ONE + "had likes = " + liking + ";");
            x.seen(0, 1, true);
            boolean can = liking <= 30;
            Check.due("liking " + liking, x.fits(0), can ? 1 : 0);
            Check.due("sure(0), liking " + liking, x.sure(0, 0), can ? liking : -1);
            Check.due("sure(1), liking " + liking, x.sure(1, 0), can ? liking : -1);
        }
        DeckChairs y = Check.told(ONE + "had likes < 0;");
        y.seen(0, 1, true);
        Check.due("below 0", y.fits(0), 0);
    }

    private static void ofTheBeachAsItWasTold() {
        DeckChairs x = Check.told(FIVE + "had alone * 50 + sat * 9 + sand * 9 + hour * 9 + likes;");
        x.seen(2, 60, true);
        x.seen(2, 61, false);
        Check.due("liking 10 alone", x.sure(0, 0) * 100 + x.sure(1, 0), 1010);
        x.sit(0, 1);
        x.fill(0, 99);
        x.sit(1, 2);
        x.fill(1, 99);
        x.hour();
        x.move(4, 0);
        Check.due("whatever is so now", x.sure(0, 0) * 100 + x.sure(1, 0), 1010);
        Check.due("what is SEEN now is of then", x.seen(1, 61, true), 2);
        Check.due("none", x.fits(0), 0);
        // What he likes as told does not matter.
        DeckChairs y = Check.told("chair a stripes 0;sitter s purse 9 likes 0;sitter t purse 9 likes 9;had likes;");
        Check.due("all likings", y.fits(0), 31);
        y.seen(0, 9, false);
        Check.due("nine of them", y.fits(0), 9);
    }

    /** TOLD at 5, UNTOLD at 9: it counts as known at 5, 6, 7 and 8. */
    private static void toldAtAndUntoldAt() {
        DeckChairs x = Check.told(ONE + "had likes;");
        x.later(5);
        x.seen(0, 21, true);
        x.later(4);
        Check.due("untell(0)", x.untell(0), true);
        x.later(3);
        for (int k = -3; k <= 15; k++) {
            boolean counts = k >= 5 && k < 9;
            Check.due("fits(" + k + ")", x.fits(k), counts ? 10 : 31);
            Check.due("sure(0, " + k + ")", x.sure(0, k), counts ? 21 : 0);
            Check.due("ask(1, " + k + ")", x.ask(1, k), 1);
        }
        Check.due("fits(MIN)", x.fits(MIN), 31);
        Check.due("fits(MAX)", x.fits(MAX), 31);
        x.seen(0, 30, true);
        Check.due("at 11 it is not yet", x.fits(11), 31);
        Check.due("at 12 it is", x.fits(12), 1);
        Check.due("and ever then", x.fits(MAX), 1);
    }

    private static void toldAndUntoldAtOneTime() {
        DeckChairs x = Check.told(ONE + "had likes;");
        x.later(5);
        x.seen(0, 21, true);
        Check.due("it counts", x.fits(5), 10);
        Check.due("UNTOLD at the same TIME", x.untell(0), true);
        for (int k = 3; k <= 7; k++) {
            Check.due("fits(" + k + ")", x.fits(k), 31);
        }
        // Two TOLD at one TIME, one of them UNTOLD later.
        x.seen(0, 11, true);
        x.seen(0, 21, true);
        x.later(1);
        x.untell(2);
        Check.due("both count", x.fits(5), 10);
        Check.due("one counts", x.fits(6), 20);
    }

    private static void untoldOnce() {
        DeckChairs x = Check.told(ONE + "had likes;");
        Check.due("there is none", x.untell(0), false);
        x.seen(0, 21, true);
        Check.due("one behind", x.untell(1), false);
        for (int i : new int[] {MIN, -1, 30, MAX}) {
            Check.due("untell(" + i + ")", x.untell(i), false);
        }
        x.later(2);
        Check.due("it is UNTOLD", x.untell(0), true);
        x.later(2);
        Check.due("it is so already", x.untell(0), false);
        Check.due("it was UNTOLD at 2", x.fits(2), 31);
        Check.due("not before", x.fits(1), 10);
        Check.due("about(8)", x.about(8), 1);
        x.seen(0, 5, true);
        Check.tell(x, ONE);
        Check.due("another BEACH: there is none", x.untell(1), false);
        Check.due("seen() of that one", x.seen(0, 5, true), 0);
        Check.tell(x, ONE);
        Check.due("a third BEACH: there is none", x.untell(0), false);
        x.seen(0, 5, true);
        Check.due("it can be", x.untell(0), true);
    }

    private static void later0To1000() {
        DeckChairs x = new DeckChairs();
        Check.due("the TIME at first", x.about(9), 0);
        Check.due("later(0)", x.later(0), 0);
        Check.due("later(1)", x.later(1), 1);
        Check.due("later(999)", x.later(999), 1000);
        Check.due("later(1000)", x.later(1000), 2000);
        for (int by : new int[] {MIN, -1000, -1, 1001, MAX}) {
            Check.due("later(" + by + ")", x.later(by), -1);
        }
        Check.due("the TIME", x.about(9), 2000);
    }

    private static void timeUpTo100000() {
        DeckChairs x = new DeckChairs();
        for (int i = 1; i <= 99; i++) {
            Check.due("later", x.later(1000), 1000 * i);
        }
        Check.due("99,001", x.later(1), 99001);
        Check.due("100,001", x.later(1000), -1);
        Check.due("it stays", x.about(9), 99001);
        Check.due("100,000", x.later(999), 100000);
        Check.due("100,001", x.later(1), -1);
        Check.due("100,000 still", x.later(0), 100000);
        Check.due("about(9)", x.about(9), 100000);
        Check.tell(x, ONE + "had likes;");
        x.seen(0, 30, true);
        Check.due("at 99,999", x.fits(99999), 31);
        Check.due("at 100,000", x.fits(100000), 1);
    }

    private static void timeStaysOverBeaches() {
        DeckChairs x = Check.told(ONE);
        x.later(7);
        x.seen(0, 9, true);
        Check.tell(x, ONE + "had likes;");
        Check.due("the TIME stays", x.about(9), 7);
        Check.due("nothing is SEEN", x.fits(MAX), 31);
        x.seen(0, 30, true);
        Check.due("it is TOLD at 7", x.fits(6) * 100 + x.fits(7), 3101);
        Check.due("back() leaves the TIME", x.image(0), 0);
        x.later(3);
        x.back(0);
        Check.due("about(9)", x.about(9), 10);
        Check.due("what is SEEN stays behind back()", x.about(8), 1);
    }

    private static void sureOfWhatFits() {
        DeckChairs x = Check.told(ONE + "had likes % 10;");
        x.seen(0, 3, true);
        x.seen(0, 4, false);
        Check.due("3, 13, 23", x.fits(0), 3);
        Check.due("the least", x.sure(0, 0), 3);
        Check.due("the greatest", x.sure(1, 0), 23);
        for (int what : new int[] {MIN, -1, 2, MAX}) {
            Check.due("sure(" + what + ", 0)", x.sure(what, 0), -1);
        }
        x.seen(0, 4, true);
        Check.due("none FITS", x.fits(0), 0);
        Check.due("no least", x.sure(0, 0), -1);
        Check.due("no greatest", x.sure(1, 0), -1);
    }

    private static void askOfLikeOnes() {
        // Known in a CHAIR with n stripes are the n parts of all 31 likings: n of like ones at the most.
        DeckChairs x = Check.told("chair a stripes 5;chair b stripes 4;chair c stripes 4;chair d stripes 6;"
                + "sitter s purse 9 likes 0;had likes / stripes;");
        Check.due("the fewest at the most", x.ask(0, 0), 1);
        Check.due("how many", x.ask(1, 0), 4);
        DeckChairs y = Check.told(FIVE + "had 5;");
        Check.due("all alike: the first one", y.ask(0, 0), 0);
        Check.due("all are left", y.ask(1, 0), 31);
        DeckChairs z = Check.told(FIVE + "had likes * (stripes = 5);");
        Check.due("the last one", z.ask(0, 0), 4);
        Check.due("one is left", z.ask(1, 0), 1);
        // Not how much at least, but how much: 0 for 10, else the liking.
        DeckChairs w = Check.told("chair a stripes 0;chair b stripes 1;sitter s purse 9 likes 0;"
                + "had likes * (likes > 9) * (stripes = 0) + (likes / 8) * (stripes = 1);");
        Check.due("eight and eight and eight and seven", w.ask(0, 0), 1);
        Check.due("eight", w.ask(1, 0), 8);
        w.seen(0, 8, true);
        Check.due("of those from 10 on each is known", w.ask(0, 0), 0);
        Check.due("one", w.ask(1, 0), 1);
        // 99 at most makes likings alike.
        DeckChairs v = Check.told(ONE + "had 80 + likes;");
        Check.due("from 19 on it is 99", v.ask(1, 0), 12);
    }

    private static void askWhoCanBe() {
        DeckChairs x = Check.told(FIVE + "had likes;");
        for (int what : new int[] {MIN, -1, 2, MAX}) {
            Check.due("ask(" + what + ", 0)", x.ask(what, 0), -1);
        }
        Check.due("ask(0, 0)", x.ask(0, 0), 0);
        Check.due("ask(1, 0)", x.ask(1, 0), 1);
        x.later(1);
        x.seen(0, 31, true);
        Check.due("none FITS", x.ask(0, 1), -1);
        Check.due("none FITS", x.ask(1, 1), -1);
        Check.due("as known before", x.ask(0, 0), 0);
        x.later(1);
        x.untell(0);
        Check.due("as known then", x.ask(0, 2), 0);
    }

    // ---- images ----

    private static void boxes0To2() {
        DeckChairs x = Check.told(ONE);
        for (int box : new int[] {MIN, -1, 3, MAX}) {
            Check.due("image(" + box + ")", x.image(box), -1);
            Check.due("back(" + box + ")", x.back(box), -1);
        }
        for (int box = 0; box < 3; box++) {
            Check.due("nothing was kept in " + box, x.back(box), -1);
        }
        for (int box = 0; box < 3; box++) {
            x.hour();
            Check.due("image(" + box + ")", x.image(box), box + 1);
            for (int other = box + 1; other < 3; other++) {
                Check.due("still nothing in " + other, x.back(other), -1);
            }
        }
        for (int box = 0; box < 3; box++) {
            Check.due("back(" + box + ")", x.back(box), box + 1);
            Check.due("the hour", x.about(4), box + 1);
        }
        Check.due("it is kept on", x.back(0), 1);
        Check.due("another one in its place", x.image(2), 1);
        Check.due("that", x.back(2), 1);
        Check.due("the one beside stays", x.back(1), 2);
    }

    private static void whatAnImageKeeps() {
        DeckChairs x = Check.told(FIVE + "had 1 + sat;gust 40;draw 12;");
        x.sit(0, 1);
        x.hour();
        x.move(2, 3);
        x.fill(1, 4);
        String then = state(x);
        int acts = x.about(6);
        Check.due("image(1)", x.image(1), 1);
        Check.due("an image is no ACT", x.about(6), acts);
        x.sit(1, 0);
        x.hour();
        x.rise(0);
        x.hour();
        x.move(2, 1);
        x.move(3, 2);
        x.fill(0, 99);
        x.undo();
        Check.due("another state", state(x).equals(then), false);
        Check.due("back(1)", x.back(1), 1);
        Twins.same("back(1)", state(x), then);
        Check.due("no ACTS to be undone", x.about(6), 0);
        Check.due("no ACTS to be redone", x.about(7), 0);
        Check.due("undo()", x.undo(), false);
        Check.due("redo()", x.redo(), false);
        Check.due("gone on from", x.fill(1, 1), 14);
        Check.due("an ACT", x.about(6), 1);
        Check.due("undone", x.undo(), true);
        Twins.same("undone to the image", state(x), then);
    }

    /** All that an image keeps. */
    private static String state(DeckChairs x) {
        StringBuilder t = new StringBuilder();
        for (int i = 0; i < 5; i++) {
            for (int what = 1; what < 7; what++) {
                t.append(x.chair(i, what)).append(' ');
            }
            for (int what = 1; what < 5; what++) {
                t.append(x.sitter(i, what)).append(' ');
            }
        }
        return t.append(x.about(4)).append(' ').append(x.about(5)).toString();
    }

    private static void boxesAndBeaches() {
        DeckChairs x = Check.told(ONE);
        for (int box = 0; box < 3; box++) {
            x.image(box);
        }
        Check.tell(x, "gust 101;");
        Check.due("a FAULT leaves them", x.back(0) + x.back(1) + x.back(2), 0);
        x.end(0);
        Check.tell(x, ONE);
        for (int box = 0; box < 3; box++) {
            Check.due("the same BEACH told anew empties " + box, x.back(box), -1);
        }
        DeckChairs y = new DeckChairs();
        Check.due("an empty BEACH is kept, too", y.image(2), 0);
        y.hour();
        Check.due("back(2)", y.back(2), 0);
        Check.due("the hour", y.about(4), 0);
    }

    private static void about0To13() {
        DeckChairs x = Check.told("chair a stripes 0;chair b stripes 0 shut 1 0 0;chair c stripes 0;chair d stripes 0;"
                + "chair e stripes 0;sitter s purse 9 likes 0;sitter t purse 9 likes 0;sitter u purse 9 likes 0;"
                + "sitter v purse 9 likes 0;sitter w purse 9 likes 0;had 1 + 2;gust 0;draw 999;");
        x.sit(4, 4);
        x.sit(0, 0);
        x.fill(0, 1);
        x.undo();
        x.later(42);
        x.seen(0, 0, true);
        x.seen(0, 0, true);
        x.untell(0);
        x.seat();
        x.feed(0, 0, 0, 0, 0);
        int[] want = {5, 5, 29, 17, 0, 999, 2, 1, 2, 42, 20, 2, 5, 0};
        for (int what = 0; what < want.length; what++) {
            Check.due("about(" + what + ")", x.about(what), want[what]);
        }
        for (int what : new int[] {MIN, -2, -1, 14, 15, MAX}) {
            Check.due("about(" + what + ")", x.about(what), -1);
        }
    }
}
