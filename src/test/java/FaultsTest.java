/** The text of a BEACH: its grammar, its limits, and the place of each FAULT. Promises 4 and 5, Terms 1. */
public final class FaultsTest {
    private static final String FIVE_CHAIRS = "chair a stripes 0;chair b stripes 1;chair c stripes 2;"
            + "chair d stripes 3;chair e stripes 4;";
    private static final String FIVE_SITTERS = "sitter a purse 0 likes 0;sitter b purse 1 likes 1;"
            + "sitter c purse 2 likes 2;sitter d purse 3 likes 3;sitter e purse 4 likes 4;";

    private FaultsTest() {
    }

    public static void main(String[] args) {
        rightTexts();
        noTokens();
        misplacedTokens();
        tooMany();
        unitsAndNesting();
        namesAgain();
        numbersThatCannotBe();
        theFirstByItsPlace();
        oneTextAgainAndAgain();
        Check.end("FaultsTest");
    }

    private static void right(String text, int sitters) {
        DeckChairs x = new DeckChairs();
        Check.due("beach() of " + text, Check.tell(x, text), sitters);
        Check.due("fault(0) of " + text, x.fault(0), 0);
        Check.due("fault(1) of " + text, x.fault(1), -1);
        Check.due("about(10) behind " + text, x.about(10), 0);
    }

    private static void rightTexts() {
        right("", 0);
        right(" \n \n", 0);
        right(FIVE_CHAIRS + FIVE_SITTERS + "had 1;gust 100;draw 999;", 5);
        right("draw 0;gust 0;had 9999;" + FIVE_SITTERS + FIVE_CHAIRS, 5);
        right("chair abcdefgh stripes 9 shut 3 3 3;sitter abcdefgh purse 99 likes 9;", 1);
        right("chair a stripes1 shut0 1\n2;sitter s purse0 likes0009;", 1);
        right("chair a stripes 0;chair aa stripes 0;chair nots stripes 0;", 0);
        right("had not not 1<2 and(stripes+likes)*alone/sat%sand-hour>0 or 3=3;", 0);
        right("had(1);", 0);
        // The same NAME once of each sort.
        right("chair same stripes 0;sitter same purse 0 likes 0;", 1);
    }

    private static void noTokens() {
        Check.fault("#", 1, 0);
        Check.fault("  \n?", 1, 3);
        Check.fault("Chair a stripes 0;", 1, 0);
        Check.fault("chair a\tstripes 0;", 1, 7);
        Check.fault("chair a stripes 0;\r", 1, 18);
        Check.fault("chair " + (char) 228 + " stripes 0;", 1, 6);
        Check.fault("chair " + (char) 0 + " stripes 0;", 1, 6);
        // A word, an N is as long as can be, and too long then; an N has no letter directly behind it.
        Check.fault("chair abcdefghi stripes 0;", 1, 6);
        Check.fault("draw 00001;", 1, 5);
        Check.fault("gust 12345;", 1, 5);
        Check.fault("had 1or 2;", 1, 4);
        Check.fault("had 1 or 2x;", 1, 9);
        Check.fault("had 1 & 2;", 1, 6);
        Check.fault("chair 9x stripes 0;", 1, 6);
    }

    private static void misplacedTokens() {
        Check.fault(";", 2, 0);
        Check.fault("bench a stripes 0;", 2, 0);
        Check.fault("7", 2, 0);
        Check.fault("stripes", 2, 0);
        Check.fault("chair", 2, 5);
        Check.fault("chair   ", 2, 8);
        Check.fault("chair a", 2, 7);
        Check.fault("chair 1 stripes 0;", 2, 6);
        Check.fault("chair a stripe 0;", 2, 8);
        Check.fault("chair a stripes;", 2, 15);
        Check.fault("chair a stripes 0", 2, 17);
        Check.fault("chair a stripes 0 shut;", 2, 22);
        Check.fault("chair a stripes 0 shut 1 2;", 2, 26);
        Check.fault("chair a stripes 0 shut 1 2 3 0;", 2, 29);
        Check.fault("chair a stripes 0 open 1 2 3;", 2, 18);
        Check.fault("chair a stripes 0 chair b stripes 0;", 2, 18);
        Check.fault("sitter a likes 0 purse 0;", 2, 9);
        Check.fault("sitter a purse 0;", 2, 16);
        Check.fault("sitter a purse 0 likes;", 2, 22);
        Check.fault("sitter a purse 0 likes 0 0;", 2, 25);
        Check.fault("gust;", 2, 4);
        Check.fault("gust - 1;", 2, 5);
        Check.fault("draw 1 2;", 2, 7);
        for (String word : new String[] {"chair", "stripes", "shut", "sitter", "purse", "likes", "had", "gust", "draw",
            "or", "and", "not", "alone", "sat", "sand", "hour"}) {
            Check.fault("chair " + word + " stripes 0;", 2, 6);
            Check.fault("sitter " + word + " purse 0 likes 0;", 2, 7);
        }
        misplacedInFormulas();
    }

    private static void misplacedInFormulas() {
        Check.fault("had;", 2, 3);
        Check.fault("had", 2, 3);
        Check.fault("had purse;", 2, 4);
        Check.fault("had x;", 2, 4);
        Check.fault("had - 1;", 2, 4);
        Check.fault("had 1 +;", 2, 7);
        Check.fault("had 1 2;", 2, 6);
        Check.fault("had 1 < 2 < 3;", 2, 10);
        Check.fault("had 1 < not 2;", 2, 8);
        Check.fault("had 1 + not 2;", 2, 8);
        Check.fault("had 1 and;", 2, 9);
        Check.fault("had or 1;", 2, 4);
        Check.fault("had not;", 2, 7);
        Check.fault("had ();", 2, 5);
        Check.fault("had (1;", 2, 6);
        Check.fault("had (1", 2, 6);
        Check.fault("had 1);", 2, 5);
    }

    private static void tooMany() {
        Check.fault(FIVE_CHAIRS + "chair f stripes 0;", 2, FIVE_CHAIRS.length());
        Check.fault(FIVE_CHAIRS + "  chair", 2, FIVE_CHAIRS.length() + 2);
        Check.fault(FIVE_SITTERS + "sitter f purse 0 likes 0;", 2, FIVE_SITTERS.length());
        Check.fault("had 1;had 2;", 2, 6);
        Check.fault("had 1; had", 2, 7);
        Check.fault("gust 1;gust 1;", 2, 7);
        Check.fault("gust 0;gust 0;", 2, 7);
        Check.fault("draw 0;gust 0;draw 0;", 2, 14);
    }

    private static void unitsAndNesting() {
        right("had " + sum(30) + ";", 0);
        Check.fault("had " + sum(31) + ";", 2, 4 + 60);
        // A unit ( e ) counts, too, and what stands in it.
        right("had " + sum(27) + "+(1+1);", 0);
        Check.fault("had " + sum(28) + "+(1+1);", 2, 4 + 56 + 3);
        Check.fault("had " + sum(30) + "+(1);", 2, 4 + 60);
        Check.due("units", Check.told("had " + sum(27) + "+(1+1);").about(11), 30);
        right("had (((((((1)))))));", 0);
        Check.fault("had ((((((((1))))))));", 2, 11);
        right("had not not not not not not not 1;", 0);
        Check.fault("had not not not not not not not not 1;", 2, 4 + 28);
        right("had not (not (not (not 1)));", 0);
        Check.fault("had not (not (not (not (1))));", 2, 23);
        Check.fault("had not (not (not (not not 1)));", 2, 23);
        // Side by side is not within.
        right("had (1)+(1)+(1)+(1)+(1)+(1)+(1)+(1)+(1);", 0);
        right("had not 1 and not 1 and not 1 and not 1 and not 1 and not 1 and not 1 and not 1;", 0);
        // All that can be within seven others, before each of thirty units.
        StringBuilder nots = new StringBuilder("had ");
        for (int i = 0; i < 30; i++) {
            nots.append(i == 0 ? "" : "and ").append("not not not not not not not 0 ");
        }
        DeckChairs x = Check.told("chair a stripes 0;sitter s purse 0 likes 0;" + nots + ";");
        Check.due("thirty times seven nots", x.had(0, 0), 1);
    }

    private static String sum(int units) {
        return "1" + "+1".repeat(units - 1);
    }

    private static void namesAgain() {
        Check.fault("chair a stripes 0;chair a stripes 1;", 3, 24);
        Check.fault("chair a stripes 0;chair b stripes 1;chair a", 3, 42);
        Check.fault("sitter a purse 0 likes 0;sitter a purse 0 likes 0;", 3, 32);
        Check.fault("chair abcdefgh stripes 0;chair abcdefgh stripes 1;", 3, 31);
        right("chair abcdefgh stripes 0;chair abcdefg stripes 1;chair bcdefgh stripes 2;", 0);
    }

    private static void numbersThatCannotBe() {
        Check.fault("chair a stripes 10;", 4, 16);
        Check.fault("chair a stripes 9999", 4, 16);
        Check.fault("chair a stripes 0 shut 4 0 0;", 4, 23);
        Check.fault("chair a stripes 0 shut 0 4 0;", 4, 25);
        Check.fault("chair a stripes 0 shut 0 0 4;", 4, 27);
        Check.fault("sitter a purse 100 likes 0;", 4, 15);
        Check.fault("sitter a purse 0 likes 10;", 4, 23);
        Check.fault("gust 101;", 4, 5);
        Check.fault("draw 1000;", 4, 5);
    }

    private static void theFirstByItsPlace() {
        Check.fault("chair a stripes 10 #", 4, 16);
        Check.fault("chair a stripes 0;chair a #", 3, 24);
        Check.fault("gust gust #", 2, 5);
        Check.fault("gust # 101", 1, 5);
        Check.fault("had 1;had #", 2, 6);
        Check.fault("had 1 < 2 < #", 2, 10);
    }

    /** What was told before, with a FAULT or without, leaves nothing behind for the next text. */
    private static void oneTextAgainAndAgain() {
        DeckChairs x = new DeckChairs();
        String text = "chair a stripes 0;chair b stripes 1 shut 1 2 3;sitter a purse 1 likes 2;had 1+1;gust 5;draw 5;";
        for (int i = 0; i < 4; i++) {
            Check.due("time " + i, Check.tell(x, text), 1);
            Check.due("CHAIRS at time " + i, x.about(1), 2);
            Check.due("units at time " + i, x.about(11), 2);
            Check.due("a FAULT at time " + i, Check.tell(x, text + "gust"), -1);
            Check.due("its place at time " + i, x.fault(1), text.length());
            x.end(0);
        }
        Check.due("less is told", Check.tell(x, "chair b stripes 9;"), 0);
        Check.due("CHAIRS", x.about(1), 1);
        Check.due("units", x.about(11), 0);
        Check.due("gust", x.about(13), 0);
        Check.due("SEED", x.about(5), 0);
        Check.due("OPEN", x.about(2), 1);
    }
}
