/** Terms 2, promises 6 to 16: what is so, HOURS and other ACTS, each at both sides of its limits. */
public final class EdgesOfActsTest {
    private static final int MIN = Integer.MIN_VALUE;
    private static final int MAX = Integer.MAX_VALUE;
    private static final String ONE = "chair a stripes 0;sitter s purse 99 likes 0;";
    private static final String FIVE = "chair a stripes 0;chair b stripes 1;chair c stripes 2;chair d stripes 3;chair e stripes 4;"
            + "sitter s purse 99 likes 0;sitter t purse 99 likes 1;sitter u purse 99 likes 2;sitter v purse 99 likes 3;"
            + "sitter w purse 99 likes 4;";

    private EdgesOfActsTest() {
    }

    public static void main(String[] args) {
        chairsThatAre();
        sittersThatAre();
        hadWhereBothAre();
        aloneInTheRow();
        ownChairIsNotTaken();
        satWhereHeSits();
        zeroAtLeastNinetyNineAtMost();
        hadIfNotTold();
        wrappingInts();
        cutAndRest();
        relationsAndLogic();
        purseHoldsIt();
        nothingIsHadAndPaid();
        byWhatIsSoThen();
        hadInAll();
        sandAtMost();
        satWithoutLimit();
        drawsOfTheSeed();
        restAndGust();
        whoDraws();
        jointsShutByAGust();
        behind999Hours();
        sittingDown();
        gettingUp();
        changing();
        moves();
        filling();
        fortyActs();
        redoTillAnotherAct();
        everyActUndone();
        Check.end("EdgesOfActsTest");
    }

    private static int value(String formula) {
        return Check.told(ONE + "had " + formula + ";").had(0, 0);
    }

    // ---- which there are ----

    private static void chairsThatAre() {
        DeckChairs x = Check.told(FIVE);
        for (int c = 0; c < 5; c++) {
            Check.due("chair(" + c + ", 0)", x.chair(c, 0), c);
        }
        for (int c : new int[] {MIN, -1, 5, 6, MAX}) {
            for (int what = 0; what <= 6; what++) {
                Check.due("chair(" + c + ", " + what + ")", x.chair(c, what), -2);
            }
        }
        int[] want = {4, 0, -1, 1, 0, 0, 0};
        for (int what = 0; what <= 6; what++) {
            Check.due("chair(4, " + what + ")", x.chair(4, what), want[what]);
        }
        for (int what : new int[] {MIN, -1, 7, MAX}) {
            Check.due("chair(4, " + what + ")", x.chair(4, what), -2);
        }
        x.sit(3, 4);
        Check.due("who SITS there", x.chair(4, 2), 3);
        x.rise(3);
        Check.due("nobody", x.chair(4, 2), -1);
    }

    private static void sittersThatAre() {
        DeckChairs x = Check.told(FIVE);
        for (int s = 0; s < 5; s++) {
            Check.due("sitter(" + s + ", 0)", x.sitter(s, 0), s);
        }
        for (int s : new int[] {MIN, -1, 5, 6, MAX}) {
            for (int what = 0; what <= 4; what++) {
                Check.due("sitter(" + s + ", " + what + ")", x.sitter(s, what), -2);
            }
        }
        int[] want = {4, 99, -1, 0, 0};
        for (int what = 0; what <= 4; what++) {
            Check.due("sitter(4, " + what + ")", x.sitter(4, what), want[what]);
        }
        for (int what : new int[] {MIN, -1, 5, MAX}) {
            Check.due("sitter(4, " + what + ")", x.sitter(4, what), -2);
        }
    }

    private static void hadWhereBothAre() {
        DeckChairs x = Check.told(FIVE + "had stripes * 10 + likes;");
        for (int s = -1; s <= 5; s++) {
            for (int c = -1; c <= 5; c++) {
                boolean are = s >= 0 && s < 5 && c >= 0 && c < 5;
                Check.due("had(" + s + ", " + c + ")", x.had(s, c), are ? c * 10 + s : -1);
            }
        }
        for (int far : new int[] {MIN, MAX}) {
            Check.due("had(" + far + ", 0)", x.had(far, 0), -1);
            Check.due("had(0, " + far + ")", x.had(0, far), -1);
        }
        // A shut CHAIR, and one taken by another SITTER, can be asked for, too.
        x.move(4, 0);
        Check.due("a shut one", x.had(4, 4), 44);
        x.sit(0, 3);
        Check.due("a taken one", x.had(4, 3), 34);
    }

    // ---- what would be HAD ----

    private static void aloneInTheRow() {
        for (int c = 0; c < 5; c++) {
            DeckChairs x = Check.told(FIVE + "had alone + 5;");
            x.sit(0, c);
            for (int d = 0; d < 5; d++) {
                boolean next = d == c - 1 || d == c + 1;
                Check.due("alone in " + d + ", one sits in " + c, x.had(1, d), next ? 5 : 6);
            }
        }
        DeckChairs y = Check.told(FIVE + "had alone + 5;");
        y.sit(0, 0);
        y.sit(1, 2);
        Check.due("two are next to it", y.had(2, 1), 5);
        Check.due("one is next to it", y.had(2, 3), 5);
        Check.due("none is next to it", y.had(2, 4), 6);
        Check.due("one CHAIR alone in its row", Check.told(ONE + "had alone + 5;").had(0, 0), 6);
        DeckChairs z = Check.told("chair a stripes 0;chair b stripes 0 shut 1 2 3;sitter s purse 9 likes 0;had alone;");
        Check.due("a shut CHAIR is not taken", z.had(0, 0), 1);
    }

    private static void ownChairIsNotTaken() {
        DeckChairs x = Check.told(FIVE + "had alone;");
        x.sit(0, 2);
        for (int c = 0; c < 5; c++) {
            Check.due("he himself takes none, " + c, x.had(0, c), 1);
            Check.due("another one there, " + c, x.had(1, c), c == 1 || c == 3 ? 0 : 1);
        }
    }

    private static void satWhereHeSits() {
        DeckChairs x = Check.told(FIVE + "had sat;");
        x.sit(0, 2);
        x.sit(1, 4);
        x.hour();
        x.hour();
        for (int c = 0; c < 5; c++) {
            Check.due("sat of the first one in " + c, x.had(0, c), c == 2 ? 2 : 0);
            Check.due("sat of the other one in " + c, x.had(1, c), c == 4 ? 2 : 0);
            Check.due("sat of one in none in " + c, x.had(2, c), 0);
        }
        Check.due("he SAT", x.sitter(0, 3), 2);
        x.rise(0);
        Check.due("in none", x.had(0, 2), 0);
        Check.due("SAT in none", x.sitter(0, 3), 0);
        x.sit(0, 2);
        Check.due("he sits down again", x.had(0, 2), 0);
        DeckChairs y = Check.told("chair a stripes 0;sitter s purse 9 likes 0;had 9 * (hour < 2);");
        y.sit(0, 0);
        y.hour();
        Check.due("he SAT an hour", y.sitter(0, 3), 1);
        y.hour();
        Check.due("in none, as he can't pay", y.sitter(0, 2), -1);
        Check.due("SAT in none", y.sitter(0, 3), 0);
    }

    private static void zeroAtLeastNinetyNineAtMost() {
        int[][] pairs = {{-9999, 0}, {-2, 0}, {-1, 0}, {0, 0}, {1, 1}, {98, 98}, {99, 99}, {100, 99}, {101, 99}, {9999, 99}};
        for (int[] pair : pairs) {
            String formula = pair[0] < 0 ? "0 - " + -pair[0] : "" + pair[0];
            Check.due(formula, value(formula), pair[1]);
        }
        // The parts of a formula are not held within 0 and 99, just what comes of all.
        Check.due("200 - 150", value("200 - 150"), 50);
        Check.due("0 - 50 + 60", value("0 - 50 + 60"), 10);
    }

    private static void hadIfNotTold() {
        for (int stripes = 0; stripes <= 9; stripes++) {
            DeckChairs x = Check.told("chair a stripes " + stripes + ";chair b stripes " + stripes + ";"
                    + "sitter s purse 9 likes 0;sitter t purse 9 likes 9;");
            Check.due("alone, stripes " + stripes, x.had(0, 0), Math.max(0, 7 - stripes));
            Check.due("alone and liking it, stripes " + stripes, x.had(1, 0), 16 - stripes);
            x.sit(1, 1);
            Check.due("with somebody, stripes " + stripes, x.had(0, 0), Math.max(0, 5 - stripes));
        }
    }

    private static void wrappingInts() {
        String least = "8192 * 8192 * 32";
        Check.due("the least int", value(least), 0);
        Check.due("one below is the greatest", value(least + " - 1"), 99);
        Check.due("and one above it the least", value(least + " - 1 + 1 < 0"), 1);
        Check.due("twice the greatest is -2", value("(" + least + " - 1) * 2 + 9"), 7);
        Check.due("the high half of a product is lost", value("(8192 * 8) * (8192 * 8) + 7"), 7);
        Check.due("0 - the least", value("0 - " + least + " < 0"), 1);
        Check.due("the least is less than 1", value(least + " < 1"), 1);
        Check.due("the least is not more than 1", value(least + " > 1"), 0);
        Check.due("the greatest is more than -1", value(least + " - 1 > 0 - 1"), 1);
        // 9,999 to the third is -1,027,349,969 then.
        Check.due("9999 * 9999 * 9999", value("9999 * 9999 * 9999 / (0 - 9999) / 9999"), 10);
    }

    private static void cutAndRest() {
        String least = "(8192 * 8192 * 32)";
        Check.due("7 / 2", value("7 / 2"), 3);
        Check.due("-7 / 2", value("(0 - 7) / 2 + 9"), 6);
        Check.due("7 / -2", value("7 / (0 - 2) + 9"), 6);
        Check.due("-7 / -2", value("(0 - 7) / (0 - 2)"), 3);
        Check.due("7 % 2", value("7 % 2"), 1);
        Check.due("-7 % 2", value("(0 - 7) % 2 + 9"), 8);
        Check.due("7 % -2", value("7 % (0 - 2) + 9"), 10);
        Check.due("1 / 2", value("1 / 2 + 5"), 5);
        Check.due("-1 / 2", value("(0 - 1) / 2 + 5"), 5);
        Check.due("by 0", value("9 / 0 + 5"), 5);
        Check.due("rest by 0", value("9 % 0 + 5"), 5);
        Check.due("0 by 0", value("0 / 0 + 5"), 5);
        Check.due("rest of 0 by 0", value("0 % 0 + 5"), 5);
        Check.due("by what is 0", value("9 / (stripes + sat) + 9 % (sand + hour) + 5"), 5);
        Check.due("by 1", value("9 / 1 + 9 % 1"), 9);
        Check.due("the least by -1", value(least + " / (0 - 1) = " + least), 1);
        Check.due("rest of the least by -1", value(least + " % (0 - 1) + 5"), 5);
    }

    private static void relationsAndLogic() {
        int[] numbers = {-2, -1, 0, 1, 2};
        for (int a : numbers) {
            for (int b : numbers) {
                String x = "(0" + (a < 0 ? "-" : "+") + Math.abs(a) + ")";
                String y = "(0" + (b < 0 ? "-" : "+") + Math.abs(b) + ")";
                Check.due(x + "<" + y, value(x + "<" + y), a < b ? 1 : 0);
                Check.due(x + ">" + y, value(x + ">" + y), a > b ? 1 : 0);
                Check.due(x + "=" + y, value(x + "=" + y), a == b ? 1 : 0);
                Check.due(x + " and " + y, value(x + " and " + y), a != 0 && b != 0 ? 1 : 0);
                Check.due(x + " or " + y, value(x + " or " + y), a != 0 || b != 0 ? 1 : 0);
                // 1 or 0 within a sum, too.
                Check.due(x + "<" + y, value("(" + x + "<" + y + ") + 5"), a < b ? 6 : 5);
                Check.due(x + ">" + y, value("(" + x + ">" + y + ") + 5"), a > b ? 6 : 5);
                Check.due(x + "=" + y, value("(" + x + "=" + y + ") + 5"), a == b ? 6 : 5);
                Check.due(x + " and " + y, value("(" + x + " and " + y + ") + 5"), a != 0 && b != 0 ? 6 : 5);
                Check.due(x + " or " + y, value("(" + x + " or " + y + ") + 5"), a != 0 || b != 0 ? 6 : 5);
            }
            String x = "(0" + (a < 0 ? "-" : "+") + Math.abs(a) + ")";
            Check.due("not " + x, value("not " + x), a == 0 ? 1 : 0);
            Check.due("not not " + x, value("not not " + x), a == 0 ? 0 : 1);
            Check.due("(not " + x + ") + 5", value("(not " + x + ") + 5"), a == 0 ? 6 : 5);
            // One alone is what it is, not 1 or 0.
            Check.due(x, value(x + " * 3 + 10"), a * 3 + 10);
        }
        // both binds before or, a relation before both, a sum before a relation.
        Check.due("1 or 1 and 0", value("1 or 1 and 0"), 1);
        Check.due("0 and 0 or 1", value("0 and 0 or 1"), 1);
        Check.due("0 and (0 or 1)", value("0 and (0 or 1)"), 0);
        Check.due("not 0 or 1", value("(not 0 or 1) + 4"), 5);
        Check.due("not behind and", value("1 and not 0"), 1);
        Check.due("not of a relation", value("not 2 < 1"), 1);
        Check.due("not of both", value("not 1 and 0"), 0);
        Check.due("sums in a relation", value("1 + 2 > 2 + 0"), 1);
        Check.due("terms in a sum", value("1 + 2 * 3 - 8 / 4 % 3"), 5);
    }

    // ---- an HOUR ----

    private static void purseHoldsIt() {
        for (int purse = 6; purse <= 8; purse++) {
            DeckChairs x = Check.told("chair a stripes 0;sitter s purse " + purse + " likes 0;had 7;");
            x.sit(0, 0);
            boolean holds = purse >= 7;
            Check.due("hour(), purse " + purse, x.hour(), holds ? 7 : 0);
            Check.due("purse behind it", x.sitter(0, 1), holds ? purse - 7 : purse);
            Check.due("CHAIR behind it", x.sitter(0, 2), holds ? 0 : -1);
            Check.due("SAT behind it", x.sitter(0, 3), holds ? 1 : 0);
            Check.due("HAD behind it", x.sitter(0, 4), holds ? 7 : 0);
            Check.due("SAND behind it", x.chair(0, 1), holds ? 1 : 0);
            Check.due("the hour goes up", x.about(4), 1);
        }
        DeckChairs y = Check.told("chair a stripes 0;sitter s purse 99 likes 0;had 100;");
        y.sit(0, 0);
        Check.due("99 at most is paid", y.hour(), 99);
        Check.due("nothing is left", y.sitter(0, 1), 0);
        Check.due("he gets up", y.hour(), 0);
        Check.due("in none", y.sitter(0, 2), -1);
        Check.due("SAND stays", y.chair(0, 1), 1);
        Check.due("HAD stays", y.sitter(0, 4), 99);
    }

    private static void nothingIsHadAndPaid() {
        DeckChairs x = Check.told("chair a stripes 0;sitter s purse 0 likes 0;had 0;");
        x.sit(0, 0);
        Check.due("0 is held by an empty purse", x.hour(), 0);
        Check.due("he SITS", x.sitter(0, 2), 0);
        Check.due("he SAT an hour", x.sitter(0, 3), 1);
        Check.due("1 SAND", x.chair(0, 1), 1);
        DeckChairs y = Check.told("chair a stripes 0;sitter s purse 50 likes 0;");
        Check.due("nobody SITS", y.hour(), 0);
        Check.due("no SAND", y.chair(0, 1), 0);
        Check.due("the hour", y.about(4), 1);
        Check.due("an ACT all the same", y.about(6), 1);
    }

    /** Who got up before him is not there any more, who gets up behind him is there still. */
    private static void byWhatIsSoThen() {
        String text = "chair a stripes 0;chair b stripes 0;sitter s purse %d likes 0;sitter t purse %d likes 0;had 5 + alone * 2;";
        DeckChairs x = Check.told(String.format(text, 4, 9));
        x.sit(0, 0);
        x.sit(1, 1);
        Check.due("the first one gets up, the other one is alone", x.hour(), 7);
        DeckChairs y = Check.told(String.format(text, 9, 4));
        y.sit(0, 0);
        y.sit(1, 1);
        Check.due("the other one gets up behind the first one", y.hour(), 5);
        Check.due("he got up", y.about(3), 1);
        DeckChairs z = Check.told(String.format(text, 9, 9));
        z.sit(1, 0);
        z.sit(0, 1);
        Check.due("both pay as two", z.hour(), 10);
        DeckChairs w = Check.told("chair a stripes 0;sitter s purse 50 likes 0;had hour * 10 + sat + sand;");
        w.sit(0, 0);
        Check.due("by the hour before it goes up", w.hour(), 0);
        Check.due("by the hour then", w.hour(), 12);
    }

    private static DeckChairs afterHours(String formula, int hours) {
        DeckChairs x = Check.told(ONE + "had " + formula + ";");
        x.sit(0, 0);
        for (int i = 0; i < hours; i++) {
            x.hour();
            x.fill(0, 99);
        }
        return x;
    }

    private static void hadInAll() {
        // 98 once and 99 a hundred times are 9,998.
        String ones = "(hour < 101) * (99 - (hour = 0)) + (hour > 100)";
        DeckChairs x = afterHours(ones, 101);
        Check.due("9,998", x.sitter(0, 4), 9998);
        Check.due("will be 9,999", x.will(0, 1), 9999);
        Check.due("will be 9,999 at most", x.will(0, 2), 9999);
        Check.due("1 is paid", x.hour(), 1);
        Check.due("9,999", x.sitter(0, 4), 9999);
        int purse = x.sitter(0, 1);
        Check.due("1 is paid all the same", x.hour(), 1);
        Check.due("9,999 at most", x.sitter(0, 4), 9999);
        Check.due("out of his purse", x.sitter(0, 1), purse - 1);
        Check.due("takings()", x.takings(), 9999);
        DeckChairs y = afterHours("99 - (hour = 0)", 101);
        Check.due("99 more than 9,998", y.hour(), 99);
        Check.due("are 9,999", y.sitter(0, 4), 9999);
        DeckChairs z = Check.told("chair a stripes 0;chair b stripes 0;sitter s purse 99 likes 0;sitter t purse 99 likes 0;had 99;");
        z.sit(0, 0);
        z.sit(1, 1);
        for (int i = 0; i < 103; i++) {
            z.hour();
            z.fill(0, 99);
            z.fill(1, 99);
        }
        Check.due("two had 9,999 each", z.takings(), 19998);
    }

    private static void sandAtMost() {
        DeckChairs x = Check.told("chair a stripes 0;chair b stripes 0;sitter s purse 0 likes 0;had 0;");
        x.sit(0, 0);
        for (int i = 1; i <= 101; i++) {
            x.hour();
            Check.due("SAND behind " + i, x.chair(0, 1), Math.min(99, i));
            Check.due("no SAND there", x.chair(1, 1), 0);
        }
        DeckChairs y = Check.told("chair a stripes 0;sitter s purse 9 likes 0;sitter t purse 9 likes 0;had sand;");
        y.sit(0, 0);
        y.hour();
        y.hour();
        y.rise(0);
        Check.due("SAND stays when he gets up", y.chair(0, 1), 2);
        Check.due("the next one has what is of it", y.sit(1, 0), 2);
        y.hour();
        Check.due("and adds to it", y.chair(0, 1), 3);
    }

    private static void satWithoutLimit() {
        DeckChairs x = Check.told("chair a stripes 0;sitter s purse 0 likes 0;had 0;");
        x.sit(0, 0);
        for (int i = 1; i <= 120; i++) {
            x.hour();
        }
        Check.due("SAT", x.sitter(0, 3), 120);
    }

    private static void drawsOfTheSeed() {
        int[] draws = {0, 1, 6, 7, 17, 44, 500, 998, 999};
        for (int draw : draws) {
            DeckChairs x = Check.told("chair a stripes 0;draw " + draw + ";");
            Check.due("the SEED at first", x.about(5), draw);
            x.hour();
            Check.due("the SEED behind " + draw, x.about(5), (draw * 137 + 71) % 1000);
        }
        DeckChairs y = Check.told("chair a stripes 0;draw 999;");
        y.hour();
        Check.due("999 becomes 934", y.about(5), 934);
    }

    /** A rest that is as much as gust tells does not shut, one less does: 0, 30, 71 and 99 by their draws. */
    private static void restAndGust() {
        int[][] drawAndRest = {{17, 0}, {7, 30}, {0, 71}, {44, 99}};
        for (int[] pair : drawAndRest) {
            for (int gust = Math.max(0, pair[1] - 1); gust <= Math.min(100, pair[1] + 1); gust++) {
                DeckChairs x = Check.told("chair a stripes 0;gust " + gust + ";draw " + pair[0] + ";");
                Check.due("standing(1), rest " + pair[1] + ", gust " + gust, x.standing(1), pair[1] < gust ? 0 : 1);
                x.hour();
                Check.due("its rest", x.about(5) % 100, pair[1]);
                Check.due("OPEN, rest " + pair[1] + ", gust " + gust, x.chair(0, 3), pair[1] < gust ? 0 : 1);
            }
        }
        for (int draw = 0; draw < 100; draw++) {
            DeckChairs never = Check.told("chair a stripes 0;gust 0;draw " + draw + ";");
            never.hour();
            Check.due("gust 0 never shuts, draw " + draw, never.chair(0, 3), 1);
            DeckChairs always = Check.told("chair a stripes 0;gust 100;draw " + draw + ";");
            always.hour();
            Check.due("gust 100 always shuts, draw " + draw, always.chair(0, 3), 0);
        }
    }

    private static int next(int seed, int times) {
        int then = seed;
        for (int i = 0; i < times; i++) {
            then = (then * 137 + 71) % 1000;
        }
        return then;
    }

    private static void whoDraws() {
        String chairs = "chair a stripes 0;chair b stripes 0 shut 0 0 1;chair c stripes 0;chair d stripes 0;chair e stripes 0;";
        DeckChairs x = Check.told(chairs + "sitter s purse 6 likes 0;had 6;gust 0;draw 3;");
        x.hour();
        Check.due("four are OPEN and free", x.about(5), next(3, 4));
        x.sit(0, 2);
        x.hour();
        Check.due("three are, as he SITS", x.about(5), next(3, 7));
        x.hour();
        Check.due("he got up: four are", x.about(5), next(3, 11));
        DeckChairs y = Check.told(chairs + "sitter s purse 99 likes 0;had 1;gust 100;draw 3;");
        y.sit(0, 2);
        y.hour();
        Check.due("his CHAIR stays OPEN", y.about(2), 4);
        Check.due("three drew", y.about(5), next(3, 3));
        y.hour();
        Check.due("none draws any more", y.about(5), next(3, 3));
        DeckChairs z = Check.told(chairs + "sitter s purse 0 likes 0;had 1;gust 100;draw 3;");
        z.sit(0, 2);
        z.hour();
        Check.due("from which he got up shuts, too", z.about(2), 0);
    }

    private static void jointsShutByAGust() {
        DeckChairs x = Check.told("chair a stripes 0;chair b stripes 0 shut 3 3 3;gust 100;");
        x.hour();
        for (int i = 0; i < 3; i++) {
            Check.due("JOINT " + i + " of the one that shuts", x.chair(0, 4 + i), i + 1);
            Check.due("JOINT " + i + " of a shut one", x.chair(1, 4 + i), 3);
        }
    }

    /** Beyond the 512 calls that are promised; the limit stands all the same. */
    private static void behind999Hours() {
        DeckChairs x = Check.told("chair a stripes 0;sitter s purse 9 likes 0;had hour > 1000;");
        x.sit(0, 0);
        for (int i = 0; i < 998; i++) {
            x.hour();
        }
        Check.due("the hour", x.about(4), 998);
        Check.due("the 999th", x.hour(), 0);
        Check.due("the hour", x.about(4), 999);
        int acts = x.about(6);
        Check.due("the 1,000th", x.hour(), -1);
        Check.due("the hour", x.about(4), 999);
        Check.due("SAT", x.sitter(0, 3), 999);
        Check.due("ACTS", x.about(6), acts);
        // In thought it goes on: 999 and 1,000 cost nothing, 1,001 costs 1.
        Check.due("will(0, 2)", x.will(0, 2), 0);
        Check.due("will(0, 3)", x.will(0, 3), 1);
        Check.due("will(0, 60)", x.will(0, 60), 9);
        Check.due("out(0)", x.out(0), 12);
        Check.due("undo()", x.undo(), true);
        Check.due("the 999th again", x.hour(), 0);
        Check.due("the 1,000th again", x.hour(), -1);
        Check.due("image(0)", x.image(0), 999);
        Check.due("back(0)", x.back(0), 999);
        Check.due("the 1,000th behind back()", x.hour(), -1);
    }

    // ---- other ACTS ----

    private static void sittingDown() {
        DeckChairs x = Check.told(FIVE + "had stripes * 10 + likes;");
        x.move(3, 0);
        Check.due("one who is none", x.sit(-1, 0), -1);
        Check.due("one who is none", x.sit(5, 0), -1);
        Check.due("in one that is none", x.sit(0, -1), -1);
        Check.due("in one that is none", x.sit(0, 5), -1);
        Check.due("in a shut one", x.sit(0, 3), -1);
        Check.due("the last one in the last one", x.sit(4, 4), 44);
        Check.due("the first one in the first one", x.sit(0, 0), 0);
        Check.due("one who SITS, elsewhere", x.sit(4, 1), -1);
        Check.due("one who SITS, there", x.sit(4, 4), -1);
        Check.due("where another one SITS", x.sit(1, 4), -1);
        Check.due("where another one SITS", x.sit(1, 0), -1);
        Check.due("where nobody SITS", x.sit(1, 2), 21);
        Check.due("three ACTS and the MOVE", x.about(6), 4);
        // Each JOINT alone keeps it shut.
        for (int i = 0; i < 3; i++) {
            DeckChairs y = Check.told("chair a stripes 0 shut " + (i == 0 ? 1 : 0) + " " + (i == 1 ? 1 : 0) + " "
                    + (i == 2 ? 1 : 0) + ";sitter s purse 9 likes 0;");
            Check.due("JOINT " + i + " alone", y.sit(0, 0), -1);
        }
        DeckChairs z = Check.told("chair a stripes 0;chair b stripes 0;sitter s purse 0 likes 0;sitter t purse 0 likes 0;had 5 + alone;");
        Check.due("an empty purse does not matter", z.sit(0, 0), 6);
        Check.due("what would be HAD beside him", z.sit(1, 1), 5);
    }

    private static void gettingUp() {
        DeckChairs x = Check.told(FIVE);
        Check.due("he SITS in none", x.rise(4), -1);
        x.sit(4, 0);
        x.sit(0, 4);
        Check.due("one who is none", x.rise(-1), -1);
        Check.due("one who is none", x.rise(5), -1);
        Check.due("from the first one", x.rise(4), 0);
        Check.due("he SITS in none again", x.rise(4), -1);
        Check.due("from the last one", x.rise(0), 4);
        Check.due("ACTS", x.about(6), 4);
    }

    private static void changing() {
        DeckChairs x = Check.told(FIVE + "had (stripes + 1) * 10 + likes + sat * 2;");
        x.sit(0, 0);
        x.sit(4, 4);
        x.hour();
        Check.due("with one who SITS in none", x.change(0, 1), -1);
        Check.due("of one who SITS in none", x.change(1, 0), -1);
        Check.due("of two who SIT in none", x.change(1, 2), -1);
        Check.due("both are one", x.change(0, 0), -1);
        Check.due("both are one who SITS in none", x.change(1, 1), -1);
        Check.due("with none", x.change(0, 5), -1);
        Check.due("with none", x.change(0, -1), -1);
        Check.due("of none", x.change(5, 0), -1);
        Check.due("of none", x.change(-1, 0), -1);
        Check.due("ACTS", x.about(6), 3);
        Check.due("SAT before", x.sitter(0, 3), 1);
        Check.due("two change", x.change(0, 4), 50 + 14);
        Check.due("SAT 0", x.sitter(0, 3) + x.sitter(4, 3), 0);
        Check.due("where", x.sitter(0, 2) * 10 + x.sitter(4, 2), 40);
        x.sit(1, 2);
        x.hour();
        // Who does not change SAT an hour: his 31 and 2 more count.
        Check.due("all who SIT then", x.change(4, 0), 10 + 54 + 33);
    }

    private static void moves() {
        for (int n = 0; n < 64; n++) {
            int a = n / 16;
            int b = n / 4 % 4;
            int c = n % 4;
            int[][] want = {{a + 1, b + 1, c}, {a, b + 3, c + 1}, {a + 3, b, c + 2}, {a + 1, b + 1, c + 1}};
            for (int m = -1; m <= 4; m++) {
                DeckChairs x = Check.told("chair a stripes 0 shut " + a + " " + b + " " + c + ";");
                if (m < 0 || m > 3) {
                    Check.due("move(0, " + m + ") of " + n, x.move(0, m), -1);
                    Check.due("no ACT", x.about(6), 0);
                } else {
                    int number = want[m][0] % 4 * 16 + want[m][1] % 4 * 4 + want[m][2] % 4;
                    Check.due("move(0, " + m + ") of " + n, x.move(0, m), number);
                    Check.due("its JOINTS", x.chair(0, 4) * 16 + x.chair(0, 5) * 4 + x.chair(0, 6), number);
                    Check.due("OPEN if all are 0", x.chair(0, 3), number == 0 ? 1 : 0);
                }
            }
        }
        DeckChairs y = Check.told(FIVE);
        Check.due("of the last one", y.move(4, 3), 21);
        Check.due("of none", y.move(5, 3), -1);
        Check.due("of none", y.move(-1, 3), -1);
        y.sit(0, 0);
        Check.due("somebody SITS there", y.move(0, 0), -1);
        Check.due("nobody SITS beside him", y.move(1, 0), 20);
        y.rise(0);
        Check.due("nobody SITS there", y.move(0, 0), 20);
    }

    private static void filling() {
        DeckChairs x = Check.told(FIVE);
        Check.due("by 1", x.fill(4, 1), 100);
        Check.due("by 99", x.fill(4, 99), 199);
        Check.due("by 0", x.fill(4, 0), -1);
        Check.due("by 100", x.fill(4, 100), -1);
        Check.due("by -1", x.fill(4, -1), -1);
        Check.due("of none", x.fill(5, 1), -1);
        Check.due("of none", x.fill(-1, 1), -1);
        for (int i = 0; i < 8; i++) {
            x.fill(4, 99);
        }
        Check.due("it holds", x.sitter(4, 1), 991);
        Check.due("to 998", x.fill(4, 7), 998);
        Check.due("to 999", x.fill(4, 1), 999);
        Check.due("beyond 999", x.fill(4, 1), -1);
        Check.due("ACTS", x.about(6), 12);
        x.undo();
        Check.due("999 at most", x.fill(4, 2), 999);
        x.undo();
        Check.due("999 at most", x.fill(4, 99), 999);
        x.undo();
        Check.due("998 again", x.sitter(4, 1), 998);
        x.sit(4, 0);
        Check.due("of one who SITS, too", x.fill(4, 1), 999);
    }

    private static void fortyActs() {
        for (int acts : new int[] {1, 39, 40, 41, 42, 85}) {
            DeckChairs x = Check.told("sitter s purse 0 likes 0;");
            for (int i = 0; i < acts; i++) {
                x.fill(0, 1);
            }
            int kept = Math.min(40, acts);
            Check.due(acts + " ACTS: kept", x.about(6), kept);
            for (int i = 1; i <= kept; i++) {
                Check.due("undo() " + i, x.undo(), true);
                Check.due("the latest one is taken back", x.sitter(0, 1), acts - i);
                Check.due("to be undone", x.about(6), kept - i);
                Check.due("to be redone", x.about(7), i);
            }
            Check.due(acts + " ACTS: the oldest are gone", x.undo(), false);
            Check.due("the purse stays", x.sitter(0, 1), acts - kept);
            for (int i = 1; i <= kept; i++) {
                Check.due("redo() " + i, x.redo(), true);
                Check.due("what was taken back last is done again", x.sitter(0, 1), acts - kept + i);
            }
            Check.due(acts + " ACTS: all are done again", x.redo(), false);
            Check.due("kept again", x.about(6), kept);
        }
    }

    private static void redoTillAnotherAct() {
        DeckChairs x = Check.told("sitter s purse 0 likes 0;");
        for (int i = 0; i < 41; i++) {
            x.fill(0, 1);
        }
        for (int i = 0; i < 10; i++) {
            x.undo();
        }
        Check.due("thirty are left", x.about(6), 30);
        x.fill(0, 50);
        Check.due("and one", x.about(6), 31);
        Check.due("none to be redone", x.about(7), 0);
        Check.due("redo()", x.redo(), false);
        Check.due("purse", x.sitter(0, 1), 81);
        x.undo();
        Check.due("before it", x.sitter(0, 1), 31);
        Check.due("redo() of it", x.redo(), true);
        Check.due("purse", x.sitter(0, 1), 81);
        for (int i = 0; i < 31; i++) {
            Check.due("undo() " + i, x.undo(), true);
        }
        Check.due("undo() of none", x.undo(), false);
        Check.due("just the oldest one is gone", x.sitter(0, 1), 1);
        // What is refused is no other ACT.
        Check.due("refused", x.fill(0, 0), -1);
        Check.due("redo() behind it", x.redo(), true);
        Check.due("purse", x.sitter(0, 1), 2);
    }

    private static void everyActUndone() {
        Twins.Call[] acts = {x -> x.hour(), x -> x.sit(4, 3), x -> x.rise(1), x -> x.change(0, 2), x -> x.move(3, 2),
            x -> x.fill(4, 9)};
        for (int i = 0; i < acts.length; i++) {
            DeckChairs x = Check.told(FIVE + "gust 50;draw 5;");
            for (int s = 0; s < 3; s++) {
                x.sit(s, s);
            }
            x.hour();
            String before = Twins.look(x).replaceAll("about [67]: .*", "");
            int open = x.about(2);
            acts[i].on(x);
            String behind = Twins.look(x).replaceAll("about [67]: .*", "");
            Check.due("ACT " + i + " (OPEN " + open + ") changes something", behind.equals(before), false);
            x.undo();
            Twins.same("ACT " + i + " undone", Twins.look(x).replaceAll("about [67]: .*", ""), before);
            x.redo();
            Twins.same("ACT " + i + " redone", Twins.look(x).replaceAll("about [67]: .*", ""), behind);
        }
    }
}
