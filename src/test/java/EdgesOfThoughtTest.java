/** Terms 3, promises 17 to 41: what is thought of, each answer at both sides of its limits, and like ones. */
public final class EdgesOfThoughtTest {
    private static final int MIN = Integer.MIN_VALUE;
    private static final int MAX = Integer.MAX_VALUE;
    private static final String THREE_CHAIRS = "chair a stripes 0;chair b stripes 1;chair c stripes 2;";
    private static final String THREE_SITTERS = "sitter s purse 50 likes 0;sitter t purse 50 likes 1;sitter u purse 50 likes 2;";
    private static final String FIVE_CHAIRS = THREE_CHAIRS + "chair d stripes 3;chair e stripes 4;";
    private static final String FIVE_SITTERS = THREE_SITTERS + "sitter v purse 50 likes 3;sitter w purse 50 likes 4;";

    private EdgesOfThoughtTest() {
    }

    public static void main(String[] args) {
        willFor0To60Hours();
        willFromNowOn();
        willWithoutGusts();
        standingFor0To60Hours();
        out0To99();
        seatOfLikeOnes();
        seatWithoutPurses();
        seatOfThatSeatingAlone();
        tollOfEach();
        openingOfEachNumber();
        worstOfAll();
        tradeIfMore();
        tradeOfTwo();
        tradeOfLikeOnes();
        ringIfMore();
        ringOfMost();
        ringOfLikeOnes();
        envyIfMore();
        rowBetween();
        rivalsWhoCanBe();
        rivalsIfMore();
        rivalsOfLikeOnes();
        bestOfFreeOnes();
        noon0To99();
        lonelyOnes();
        gapAtEachEnd();
        brokeByOne();
        throneOfLikeOnes();
        couplesInTheRow();
        veteranOfThoseWhoSit();
        richestOfLikeOnes();
        takingsOfAll();
        law0To99();
        oddsInLowestTerms();
        whatLiesThere();
        Check.end("EdgesOfThoughtTest");
    }

    /** What is HAD by each of three SITTERS in each of three CHAIRS: a digit each. */
    private static String table(int first, int second, int third) {
        return "had ((likes = 0) * " + first + " + (likes = 1) * " + second + " + (likes = 2) * " + third
                + ") / ((stripes = 0) * 100 + (stripes = 1) * 10 + (stripes = 2)) % 10;";
    }

    /** Three SITTERS, each in the CHAIR of his number, nothing paid yet. */
    private static DeckChairs seated(int first, int second, int third) {
        DeckChairs x = Check.told(THREE_CHAIRS + THREE_SITTERS + table(first, second, third));
        int[] rows = {first, second, third};
        int[] tens = {100, 10, 1};
        for (int s = 0; s < 3; s++) {
            for (int c = 0; c < 3; c++) {
                Check.due("the table's " + s + ", " + c, x.had(s, c), rows[s] / tens[c] % 10);
            }
            x.sit(s, s);
        }
        return x;
    }

    // ---- HOURS that are thought of ----

    private static void willFor0To60Hours() {
        DeckChairs x = Check.told(FIVE_CHAIRS + FIVE_SITTERS + "had likes = 4;");
        x.fill(4, 99);
        x.sit(4, 4);
        for (int n = 0; n <= 60; n++) {
            Check.due("will(4, " + n + ")", x.will(4, n), n);
            Check.due("will(0, " + n + ")", x.will(0, n), 0);
        }
        for (int n : new int[] {MIN, -1, 61, 62, MAX}) {
            Check.due("will(4, " + n + ")", x.will(4, n), -1);
        }
        for (int s : new int[] {MIN, -1, 5, MAX}) {
            Check.due("will(" + s + ", 0)", x.will(s, 0), -1);
            Check.due("will(" + s + ", 60)", x.will(s, 60), -1);
        }
        x.hour();
        Check.due("what he HAD before counts", x.will(4, 0), 1);
        Check.due("and what comes", x.will(4, 60), 61);
        x.rise(4);
        Check.due("in none he has no more", x.will(4, 60), 1);
    }

    /** HOURS that are thought of go on from what is so now: SAT, SAND, purse, the hour. */
    private static void willFromNowOn() {
        DeckChairs x = Check.told("chair a stripes 0;sitter s purse 99 likes 0;had sat * 10 + 1;");
        x.sit(0, 0);
        x.hour();
        x.hour();
        Check.due("SAT 2 hours: 1 and 11, then 21", x.will(0, 1), 33);
        Check.due("then 31", x.will(0, 2), 64);
        Check.due("41 are more than he HAS", x.out(0), 3);
        DeckChairs y = Check.told("chair a stripes 0;sitter s purse 0 likes 0;sitter t purse 99 likes 0;had sand * 10;");
        y.sit(0, 0);
        y.hour();
        y.rise(0);
        y.sit(1, 0);
        Check.due("1 SAND: 10, then 20", y.will(1, 2), 30);
        Check.due("10 and 20 and 30, not 40", y.out(1), 4);
        DeckChairs z = Check.told("chair a stripes 0;sitter s purse 99 likes 0;had hour;");
        z.hour();
        z.hour();
        z.sit(0, 0);
        Check.due("hour 2, then 3", z.will(0, 2), 5);
        DeckChairs w = Check.told("chair a stripes 0;chair b stripes 0 shut 3 3 3;gust 100;");
        w.move(1, 3);
        Check.due("what was opened", w.standing(0), 3);
        Check.due("what is OPEN shuts", w.standing(1), 0);
    }

    private static void willWithoutGusts() {
        DeckChairs x = Check.told("chair a stripes 0;chair b stripes 0;sitter s purse 10 likes 0;sitter t purse 99 likes 0;"
                + "had 5 + alone * 2;gust 100;draw 1;");
        x.sit(0, 0);
        x.sit(1, 1);
        // He pays 5 twice and gets up in the third HOUR, in which the other one is alone already.
        Check.due("will(0, 3)", x.will(0, 3), 10);
        Check.due("will(1, 2)", x.will(1, 2), 10);
        Check.due("will(1, 3)", x.will(1, 3), 17);
        Check.due("no SEED is drawn", x.about(5), 1);
    }

    private static void standingFor0To60Hours() {
        DeckChairs x = Check.told("chair a stripes 0;chair b stripes 0 shut 0 0 1;chair c stripes 0;sitter s purse 59 likes 0;"
                + "had 1;gust 100;");
        x.sit(0, 0);
        Check.due("standing(0)", x.standing(0), 5);
        Check.due("standing(1)", x.standing(1), 1);
        Check.due("standing(59)", x.standing(59), 1);
        Check.due("standing(60)", x.standing(60), 0);
        for (int n : new int[] {MIN, -1, 61, MAX}) {
            Check.due("standing(" + n + ")", x.standing(n), -1);
        }
        DeckChairs y = Check.told(FIVE_CHAIRS + "gust 20;draw 77;");
        for (int n = 0; n <= 60; n++) {
            int told = y.standing(n);
            DeckChairs z = Check.told(FIVE_CHAIRS + "gust 20;draw 77;");
            for (int i = 0; i < n; i++) {
                z.hour();
            }
            Check.due("as HOURS make it, " + n, told, z.about(2));
        }
    }

    private static void out0To99() {
        DeckChairs x = Check.told("chair a stripes 0;sitter s purse 97 likes 0;had 1;gust 100;");
        Check.due("in none", x.out(0), 0);
        x.sit(0, 0);
        Check.due("97 HOURS are paid", x.out(0), 98);
        x.fill(0, 1);
        Check.due("98 HOURS are paid", x.out(0), 99);
        x.fill(0, 1);
        Check.due("99 HOURS are paid", x.out(0), -1);
        for (int s : new int[] {MIN, -1, 1, MAX}) {
            Check.due("out(" + s + ")", x.out(s), -1);
        }
        DeckChairs y = Check.told("chair a stripes 0;sitter s purse 0 likes 0;had 1;");
        y.sit(0, 0);
        Check.due("at once", y.out(0), 1);
        DeckChairs z = Check.told("chair a stripes 0;sitter s purse 0 likes 0;had 0;");
        z.sit(0, 0);
        Check.due("never", z.out(0), -1);
        DeckChairs w = Check.told("chair a stripes 0;sitter s purse 0 likes 0;had hour = 98;");
        w.sit(0, 0);
        Check.due("in the 99th HOUR", w.out(0), 99);
        DeckChairs v = Check.told("chair a stripes 0;sitter s purse 0 likes 0;had hour = 99;");
        v.sit(0, 0);
        Check.due("in the 100th HOUR", v.out(0), -1);
    }

    // ---- SEAT and TOLL ----

    private static void seatOfLikeOnes() {
        DeckChairs x = Check.told(FIVE_CHAIRS + FIVE_SITTERS + "had 0;");
        Check.due("nothing is HAD anyhow", x.seat(), 0);
        Check.lies("the least CHAIR first, none behind all", x, 0, 1, 2, 3, 4);
        x.move(0, 0);
        x.move(3, 0);
        x.seat();
        Check.lies("OPEN ones alone", x, 1, 2, 4, -1, -1);
        DeckChairs y = Check.told(THREE_CHAIRS + THREE_SITTERS + table(555, 555, 555));
        Check.due("all alike", y.seat(), 15);
        Check.lies("all alike", y, 0, 1, 2);
        // Both (1, 0, 2) and (2, 0, 1) give 9 and 9 and 9: the first one by its first SITTER.
        DeckChairs z = Check.told(THREE_CHAIRS + THREE_SITTERS + table(199, 911, 199));
        Check.due("two alike", z.seat(), 27);
        Check.lies("two alike", z, 1, 0, 2);
        DeckChairs w = Check.told(THREE_CHAIRS + THREE_SITTERS + table(991, 991, 119));
        Check.due("two alike", w.seat(), 27);
        Check.lies("two alike", w, 0, 1, 2);
        // More is HAD if one of them sits in none.
        DeckChairs v = Check.told("chair a stripes 0;chair b stripes 0;sitter s purse 0 likes 1;sitter t purse 0 likes 1;had alone * 9;");
        Check.due("one alone", v.seat(), 9);
        Check.lies("he first, the other one in none", v, 0, -1);
        DeckChairs u = Check.told("chair a stripes 0 shut 1 0 0;sitter s purse 0 likes 1;sitter t purse 0 likes 1;");
        Check.due("no OPEN CHAIR", u.seat(), 0);
        Check.lies("all in none", u, -1, -1);
    }

    private static void seatWithoutPurses() {
        DeckChairs x = Check.told("chair a stripes 0;sitter s purse 0 likes 0;sitter t purse 99 likes 0;had 99;");
        Check.due("an empty purse", x.seat(), 99);
        Check.lies("the first one", x, 0, -1);
    }

    private static void seatOfThatSeatingAlone() {
        DeckChairs x = Check.told(THREE_CHAIRS + THREE_SITTERS + "had 1 + alone * 5 + sat * 3 + sand + hour;");
        x.sit(2, 1);
        Check.due("who SITS now takes nothing in it", x.seat(), 12);
        Check.lies("both ends", x, 0, 2, -1);
        x.rise(2);
        x.sit(2, 2);
        x.hour();
        // In his own CHAIR he has 6 and 3 and 1 and 1; the first one has 7 beside him.
        Check.due("sat where he SITS now, SAND, the hour", x.seat(), 18);
        Check.lies("where he SITS", x, 0, -1, 2);
    }

    private static void tollOfEach() {
        DeckChairs x = Check.told("chair a stripes 0;sitter s purse 0 likes 9;sitter t purse 0 likes 4;had likes;");
        Check.due("the first one keeps the other one out", x.toll(0), 4);
        Check.due("the other one keeps nobody out", x.toll(1), 0);
        for (int s : new int[] {MIN, -1, 2, MAX}) {
            Check.due("toll(" + s + ")", x.toll(s), -1);
        }
        Check.due("the only one", Check.told("chair a stripes 0;sitter s purse 0 likes 9;").toll(0), 0);
        Check.due("no CHAIRS", Check.told("sitter s purse 0 likes 9;sitter t purse 0 likes 9;").toll(0), 0);
        DeckChairs y = Check.told("chair a stripes 0;chair b stripes 0;sitter s purse 0 likes 0;sitter t purse 0 likes 0;had 1 - alone;");
        Check.due("without him the other one has less", y.toll(0), -1);
        DeckChairs z = Check.told(FIVE_CHAIRS + FIVE_SITTERS + "had (stripes = 0) * (likes + 1);");
        Check.due("the last one", z.toll(4), 4);
        Check.due("the one before him", z.toll(3), 0);
        Check.due("one behind the last one", z.toll(5), -1);
        // Side by side both have less than alone, and that is what the others have in the SEAT.
        DeckChairs w = Check.told("chair a stripes 0;chair b stripes 0;sitter s purse 9 likes 1;sitter t purse 9 likes 9;"
                + "had 5 + alone * 2 + likes;");
        Check.due("the first one's", w.toll(0), 2);
        Check.due("the other one's", w.toll(1), 2);
        w.move(0, 0);
        Check.due("the first one's, who is in none", w.toll(0), 0);
        Check.due("the other one's, who is alone in the last CHAIR", w.toll(1), 8);
    }

    // ---- JOINTS ----

    private static int moved(int n, int move) {
        int a = n / 16;
        int b = n / 4 % 4;
        int c = n % 4;
        switch (move) {
            case 0:
                return (a + 1) % 4 * 16 + (b + 1) % 4 * 4 + c;
            case 1:
                return a * 16 + (b + 3) % 4 * 4 + (c + 1) % 4;
            case 2:
                return (a + 3) % 4 * 16 + b * 4 + (c + 2) % 4;
            default:
                return (a + 1) % 4 * 16 + (b + 1) % 4 * 4 + (c + 1) % 4;
        }
    }

    /** The first row of n MOVES by their numbers that opens, its MOVES as digits behind a 9; 0 if there is none. */
    private static int firstRow(int joints, int n, int row) {
        if (n == 0) {
            return joints == 0 ? row : 0;
        }
        for (int move = 0; move < 4; move++) {
            int found = firstRow(moved(joints, move), n - 1, row * 10 + move);
            if (found != 0) {
                return found;
            }
        }
        return 0;
    }

    private static int fewest(int joints) {
        for (int n = 0; n < 10; n++) {
            if (firstRow(joints, n, 9) != 0) {
                return n;
            }
        }
        return -1;
    }

    private static void openingOfEachNumber() {
        for (int n = 0; n < 64; n++) {
            DeckChairs x = Check.told("chair z stripes 0;chair a stripes 0 shut " + n / 16 + " " + n / 4 % 4 + " " + n % 4 + ";");
            int moves = fewest(n);
            Check.due("opening of " + n, x.opening(1), moves);
            int row = 9;
            for (int i = 0; i < moves; i++) {
                row = row * 10 + x.lies(i);
            }
            Check.due("of like rows the first, of " + n, row, firstRow(n, moves, 9));
            Check.due("no more MOVES lie there", x.about(12), moves);
            Check.due("no MOVE is done", x.about(6), 0);
            Check.due("it is OPEN", x.opening(0), 0);
            Check.lies("nothing lies there behind 0", x);
        }
        DeckChairs y = Check.told(FIVE_CHAIRS);
        y.move(4, 0);
        for (int c : new int[] {MIN, -1, 5, MAX}) {
            Check.due("opening(4)", y.opening(4) > 0, true);
            Check.due("opening(" + c + ")", y.opening(c), -1);
            Check.lies("behind NONE", y);
        }
        // One in which somebody SITS is OPEN.
        DeckChairs z = Check.told("chair a stripes 0;sitter s purse 0 likes 0;");
        z.sit(0, 0);
        Check.due("somebody SITS there", z.opening(0), 0);
    }

    private static void worstOfAll() {
        int worst = 0;
        for (int n = 0; n < 64; n++) {
            if (fewest(n) > fewest(worst)) {
                worst = n;
            }
        }
        DeckChairs x = new DeckChairs();
        Check.due("worst(0)", x.worst(0), worst);
        Check.due("worst(1)", x.worst(1), fewest(worst));
        for (int what : new int[] {MIN, -1, 2, MAX}) {
            Check.due("worst(" + what + ")", x.worst(what), -1);
        }
        Check.due("of all that there may be, whatever is told", Check.told(FIVE_CHAIRS).worst(0), worst);
    }

    // ---- TRADE, RING, ENVY ----

    private static void trade(String what, DeckChairs x, int first, int other, int much) {
        Check.due(what + ": trade(0)", x.trade(0), first);
        Check.due(what + ": trade(1)", x.trade(1), other);
        Check.due(what + ": trade(2)", x.trade(2), much);
        for (int wrong : new int[] {MIN, -1, 3, MAX}) {
            Check.due(what + ": trade(" + wrong + ")", x.trade(wrong), -1);
        }
    }

    private static void tradeIfMore() {
        trade("as much is not more", seated(555, 555, 555), -1, -1, -1);
        trade("one less", seated(540, 550, 5), -1, -1, -1);
        trade("one more", seated(560, 550, 5), 0, 1, 16);
        trade("as much by two", seated(560, 450, 5), -1, -1, -1);
        DeckChairs x = Check.told(THREE_CHAIRS + THREE_SITTERS + table(199, 911, 999));
        trade("nobody SITS", x, -1, -1, -1);
        x.sit(0, 0);
        trade("one SITS", x, -1, -1, -1);
        x.sit(1, 1);
        trade("two SIT", x, 0, 1, 18);
        // He has an hour to lose by it.
        DeckChairs y = Check.told("chair a stripes 0;chair b stripes 9;sitter s purse 50 likes 0;sitter t purse 50 likes 1;"
                + "had 5 + (likes = 0) * (stripes = 9) * 3 + sat * 2;");
        y.sit(0, 0);
        y.sit(1, 1);
        trade("before an hour", y, 0, 1, 13);
        y.hour();
        trade("SAT 0 both then", y, -1, -1, -1);
    }

    private static void tradeOfTwo() {
        // He would have more himself if he sat down anew, but no one changes with himself.
        DeckChairs x = Check.told(FIVE_CHAIRS + FIVE_SITTERS + "had 9 - sat * 3 - (stripes - likes) * (stripes - likes);");
        for (int s = 0; s < 5; s++) {
            x.sit(s, s);
        }
        x.hour();
        // Two side by side lose 1 each and win 3 each.
        trade("the first two", x, 0, 1, 34);
        x.rise(0);
        x.rise(1);
        x.rise(2);
        trade("the last two", x, 3, 4, 16);
        x.rise(3);
        trade("the last one alone", x, -1, -1, -1);
        // Who does not change SAT as long as now.
        DeckChairs y = Check.told(THREE_CHAIRS + THREE_SITTERS + "had 1 + (likes < 2) * (1 - (likes = stripes)) * 20 + sat * 5 + sand;");
        for (int s = 0; s < 3; s++) {
            y.sit(s, s);
        }
        y.hour();
        trade("22 and 22 and his 7", y, 0, 1, 51);
    }

    private static void tradeOfLikeOnes() {
        // By two: (0, 1) and (1, 2); (0, 2) and (1, 2); (0, 1) and (0, 2); all three.
        trade("0 and 1", seated(10, 101, 10), 0, 1, 2);
        trade("0 and 2", seated(1, 1, 0), 0, 2, 1);
        trade("0 and 1", seated(11, 0, 0), 0, 1, 1);
        trade("1 and 2 alone", seated(100, 11, 21), 1, 2, 4);
        trade("1 and 2 by more", seated(10, 102, 20), 1, 2, 4);
        trade("0 and 1 of all three", seated(11, 101, 110), 0, 1, 2);
    }

    private static void ringIfMore() {
        DeckChairs x = seated(555, 555, 555);
        Check.due("as much is not more", x.ring(), 0);
        Check.lies("each in his own", x, 0, 1, 2);
        DeckChairs y = seated(565, 655, 5);
        Check.due("one more each", y.ring(), 2);
        Check.lies("two change", y, 1, 0, 2);
        DeckChairs z = seated(595, 555, 5);
        Check.due("just one is gladder", z.ring(), 0);
        DeckChairs w = Check.told(THREE_CHAIRS + THREE_SITTERS + table(565, 655, 555));
        Check.due("nobody SITS", w.ring(), 0);
        Check.lies("nobody SITS", w, -1, -1, -1);
        w.sit(1, 1);
        Check.due("one SITS", w.ring(), 0);
        Check.lies("one SITS", w, -1, 1, -1);
        w.sit(0, 0);
        Check.due("two SIT", w.ring(), 2);
        Check.lies("two SIT", w, 1, 0, -1);
        // An hour SAT makes as much of the old CHAIR as of the new one.
        DeckChairs v = Check.told("chair a stripes 0;chair b stripes 1;sitter s purse 50 likes 0;sitter t purse 50 likes 1;"
                + "had 5 + (likes - stripes) * (likes - stripes) + sat;");
        v.sit(0, 0);
        v.sit(1, 1);
        Check.due("before an hour", v.ring(), 2);
        v.hour();
        Check.due("behind an hour", v.ring(), 0);
        Check.lies("behind an hour", v, 0, 1);
    }

    private static void ringOfMost() {
        // Two of them would have 9 each; all three change all the same.
        DeckChairs x = seated(190, 912, 201);
        Check.due("three change though two have more", x.ring(), 3);
        Check.lies("all three", x, 1, 2, 0);
        // A pair that is dealt behind the ring of three has twice as much: the ring stays.
        DeckChairs w = seated(129, 12, 201);
        Check.due("three change though two have more", w.ring(), 3);
        Check.lies("all three", w, 1, 2, 0);
        // Both rings of three: the second one has more.
        DeckChairs y = seated(123, 312, 231);
        Check.due("three change", y.ring(), 3);
        Check.lies("by which most is HAD", y, 2, 0, 1);
        // Of three pairs the one by which most is HAD.
        DeckChairs z = seated(120, 213, 31);
        Check.due("two change", z.ring(), 2);
        Check.lies("by which most is HAD", z, 0, 2, 1);
    }

    private static void ringOfLikeOnes() {
        DeckChairs x = seated(122, 212, 221);
        Check.due("three change", x.ring(), 3);
        Check.lies("the least CHAIR of the first one", x, 1, 2, 0);
        // Pairs (0, 1) and (1, 2), 4 and what the third one has: the first one's least CHAIR is his own.
        DeckChairs y = seated(120, 212, 21);
        Check.due("two change", y.ring(), 2);
        Check.lies("the first one stays", y, 0, 2, 1);
        DeckChairs z = Check.told(FIVE_CHAIRS + FIVE_SITTERS + "had not likes = stripes;");
        for (int s = 0; s < 5; s++) {
            z.sit(s, s);
        }
        Check.due("all five change", z.ring(), 5);
        Check.lies("the first of all such", z, 1, 0, 3, 4, 2);
        Check.due("nothing is done", z.sitter(0, 2), 0);
    }

    private static void envyIfMore() {
        DeckChairs x = seated(565, 555, 456);
        Check.due("one more", x.envy(0), 2);
        Check.due("as much", x.envy(1), 0);
        Check.due("one less", x.envy(2), 0);
        x.rise(1);
        Check.due("he SITS in none", x.envy(1), -1);
        Check.due("a free one, too", x.envy(0), 2);
        x.move(1, 0);
        Check.due("not a shut one", x.envy(0), 0);
        for (int s : new int[] {MIN, -1, 3, MAX}) {
            Check.due("envy(" + s + ")", x.envy(s), -1);
        }
        // He is alone in another one's CHAIR, from which that one gets up; his own is not taken then.
        DeckChairs y = Check.told(THREE_CHAIRS + THREE_SITTERS + "had alone;");
        y.sit(0, 0);
        y.sit(1, 1);
        Check.due("in the other one's CHAIR and the last one", y.envy(0), 2);
        Check.due("in the first one's", y.envy(1), 1 | 4);
        DeckChairs z = Check.told(FIVE_CHAIRS + FIVE_SITTERS + "had stripes;");
        z.sit(4, 0);
        Check.due("all but his own", z.envy(4), 30);
    }

    // ---- ROW, RIVALS ----

    private static void rowBetween() {
        DeckChairs x = Check.told(FIVE_CHAIRS + FIVE_SITTERS);
        for (int a = -1; a <= 5; a++) {
            for (int b = -1; b <= 5; b++) {
                boolean are = a >= 0 && a < 5 && b >= 0 && b < 5;
                Check.due("row(" + a + ", " + b + ")", x.row(a, b), are ? Math.max(0, Math.abs(a - b) - 1) : -1);
            }
        }
        for (int far : new int[] {MIN, MAX}) {
            Check.due("row(" + far + ", 0)", x.row(far, 0), -1);
            Check.due("row(0, " + far + ")", x.row(0, far), -1);
            Check.due("row(" + far + ", " + far + ")", x.row(far, far), -1);
        }
        x.sit(0, 0);
        x.sit(1, 4);
        Check.due("both ends do not count", x.row(0, 4), 3);
        x.move(1, 0);
        Check.due("a shut one does not count", x.row(0, 4), 2);
        x.sit(2, 2);
        Check.due("a taken one does not count", x.row(4, 0), 1);
        x.sit(3, 3);
        Check.due("none is left", x.row(0, 4), 0);
    }

    private static void rivalsWhoCanBe() {
        DeckChairs x = Check.told(FIVE_CHAIRS + FIVE_SITTERS + "had 1;");
        for (int a = -1; a <= 5; a++) {
            for (int b = -1; b <= 5; b++) {
                boolean can = a >= 0 && a < 5 && b >= 0 && b < 5 && a != b;
                // All but both for one: there either would have more elsewhere.
                Check.due("rivals(" + a + ", " + b + ")", x.rivals(a, b), can ? 20 : -1);
                Check.due("what lies there", x.about(12), can ? 2 : 0);
            }
        }
        for (int far : new int[] {MIN, MAX}) {
            Check.due("rivals(" + far + ", 0)", x.rivals(far, 0), -1);
            Check.due("rivals(0, " + far + ")", x.rivals(0, far), -1);
        }
        x.sit(0, 0);
        Check.due("one SITS", x.rivals(0, 1), -1);
        Check.due("one SITS", x.rivals(1, 0), -1);
        Check.due("four are free", x.rivals(1, 2), 12);
        Check.lies("the least numbers", x, 1, 2);
        x.sit(3, 1);
        x.sit(4, 2);
        x.move(3, 0);
        Check.due("one is free", x.rivals(1, 2), 1);
        Check.lies("both for that", x, 4, 4);
        x.move(4, 0);
        Check.due("none is free", x.rivals(1, 2), -1);
        Check.lies("behind NONE", x);
    }

    private static void rivalsIfMore() {
        String two = "chair a stripes 0;chair b stripes 9;sitter s purse 9 likes 0;sitter t purse 9 likes 1;";
        // Nothing is HAD anywhere: nobody would have more elsewhere.
        DeckChairs x = Check.told(two + "had 0;");
        Check.due("all four", x.rivals(0, 1), 4);
        Check.lies("both for the first one", x, 0, 0);
        // 1 in the second CHAIR alone: both for the first one is none any more.
        DeckChairs y = Check.told(two + "had stripes > 0;");
        Check.due("three", y.rivals(0, 1), 3);
        Check.lies("the first of these", y, 0, 1);
        DeckChairs z = Check.told(two + "had likes;");
        // The first one has nothing anywhere; the other one must have a CHAIR for himself.
        Check.due("the other one for himself", z.rivals(0, 1), 2);
        Check.lies("the first of these", z, 0, 1);
        Check.due("the other way round", z.rivals(1, 0), 2);
        Check.lies("the other way round", z, 0, 1);
    }

    private static void rivalsOfLikeOnes() {
        DeckChairs x = Check.told(THREE_CHAIRS + THREE_SITTERS + table(129, 921, 555));
        Check.due("each his own", x.rivals(0, 1), 1);
        Check.lies("the first one's, the other one's", x, 2, 0);
        Check.due("the other way round", x.rivals(1, 0), 1);
        Check.lies("the first one's, the other one's", x, 0, 2);
        // Who SITS takes his CHAIR, and both of theirs are taken: nobody is alone in three CHAIRS.
        DeckChairs y = Check.told("chair a stripes 0;chair b stripes 0;chair c stripes 0;chair d stripes 0;chair e stripes 0;"
                + "sitter s purse 9 likes 0;sitter t purse 9 likes 0;sitter u purse 9 likes 0;had 1 + alone * 3;");
        y.sit(2, 2);
        Check.due("both ends", y.rivals(0, 1), 2);
        Check.lies("both ends", y, 0, 4);
        y.rise(2);
        y.sit(2, 0);
        // 2 and 4 are both alone; beside one in 3 nobody is, so that 1 is as good there as any.
        Check.due("both alone, or one", y.rivals(0, 1), 4);
        Check.lies("both alone, or one", y, 1, 3);
        // He wants to be where the other one is, who wants to be away from him.
        DeckChairs z = Check.told("chair a stripes 0;chair b stripes 1;chair c stripes 2;chair d stripes 3;"
                + "sitter s purse 9 likes 0;sitter t purse 9 likes 1;had (likes = alone) * 5 + 1;");
        Check.due("no RESTS", z.rivals(0, 1), 0);
        Check.lies("behind 0", z);
    }

    // ---- single CHAIRS and SITTERS ----

    private static void bestOfFreeOnes() {
        DeckChairs x = Check.told(FIVE_CHAIRS + FIVE_SITTERS + "had stripes / 2;");
        Check.due("the only one with most", x.best(4, 0), 4);
        Check.due("how much", x.best(4, 1), 2);
        x.sit(0, 4);
        Check.due("of like ones the first", x.best(4, 0), 2);
        Check.due("how much", x.best(4, 1), 1);
        x.move(2, 0);
        Check.due("not a shut one", x.best(4, 0), 3);
        for (int what : new int[] {MIN, -1, 2, MAX}) {
            Check.due("best(4, " + what + ")", x.best(4, what), -1);
        }
        for (int s : new int[] {MIN, -1, 5, MAX}) {
            Check.due("best(" + s + ", 0)", x.best(s, 0), -1);
            Check.due("best(" + s + ", 1)", x.best(s, 1), -1);
        }
        x.sit(1, 0);
        x.sit(2, 1);
        x.sit(3, 3);
        Check.due("none is free", x.best(4, 0), -1);
        Check.due("none is free", x.best(4, 1), -1);
        x.rise(1);
        Check.due("one is, in which nothing is HAD", x.best(4, 0), 0);
        Check.due("nothing", x.best(4, 1), 0);
        // As at had(): his own CHAIR is not taken by him.
        DeckChairs y = Check.told(THREE_CHAIRS + THREE_SITTERS + "had alone * 5 + stripes;");
        y.sit(0, 0);
        Check.due("of one who SITS", y.best(0, 0), 2);
        Check.due("how much", y.best(0, 1), 7);
        y.sit(1, 2);
        Check.due("beside another one", y.best(0, 1), 1);
    }

    private static void noon0To99() {
        String one = "chair a stripes 0;sitter s purse 9 likes 0;";
        Check.due("hour 0", Check.told(one + "had hour = 0;").noon(0, 0), 0);
        Check.due("hour 1", Check.told(one + "had hour = 1;").noon(0, 0), 1);
        Check.due("hour 98", Check.told(one + "had hour = 98;").noon(0, 0), 98);
        Check.due("hour 99", Check.told(one + "had hour = 99;").noon(0, 0), 99);
        Check.due("hour 100", Check.told(one + "had hour = 100;").noon(0, 0), 0);
        Check.due("of like ones the least", Check.told(one + "had hour > 41;").noon(0, 0), 42);
        Check.due("always nothing", Check.told(one + "had 0;").noon(0, 0), 0);
        DeckChairs x = Check.told(FIVE_CHAIRS + FIVE_SITTERS + "had (hour = likes * 10 + stripes) * 5 + (hour = 77) * alone * 9;");
        x.sit(0, 0);
        for (int s = -1; s <= 5; s++) {
            for (int c = -1; c <= 5; c++) {
                boolean are = s >= 0 && s < 5 && c >= 0 && c < 5;
                int want = s != 0 && c == 1 ? s * 10 + c : 77;
                Check.due("noon(" + s + ", " + c + ")", x.noon(s, c), are ? want : -1);
            }
        }
        x.hour();
        Check.due("the hour stays", x.about(4), 1);
        Check.due("a shut one", Check.told("chair a stripes 0 shut 1 1 1;sitter s purse 9 likes 0;had hour = 7;").noon(0, 0), 7);
        DeckChairs y = Check.told(one + "had (hour = 5 + sat) + (hour = 50 + sand) * 2;");
        y.sit(0, 0);
        y.hour();
        y.hour();
        Check.due("SAND as now", y.noon(0, 0), 52);
        DeckChairs z = Check.told(one + "had hour = 5 + sat;");
        z.sit(0, 0);
        z.hour();
        Check.due("SAT as now", z.noon(0, 0), 6);
    }

    /** Who SITS where, by bits of CHAIRS: SITTER by SITTER from the first CHAIR on. */
    private static DeckChairs taken(int bits) {
        DeckChairs x = Check.told(FIVE_CHAIRS + FIVE_SITTERS + "had 1;");
        int s = 0;
        for (int c = 0; c < 5; c++) {
            if ((bits >> c & 1) != 0) {
                x.sit(s, c);
                s++;
            }
        }
        Check.due("taken", x.about(3), bits);
        return x;
    }

    private static void lonelyOnes() {
        for (int bits = 0; bits < 32; bits++) {
            int want = 0;
            int s = 0;
            for (int c = 0; c < 5; c++) {
                boolean sits = (bits >> c & 1) != 0;
                boolean left = c > 0 && (bits >> (c - 1) & 1) != 0;
                boolean right = c < 4 && (bits >> (c + 1) & 1) != 0;
                if (sits && !left && !right) {
                    want |= 1 << s;
                }
                s += sits ? 1 : 0;
            }
            Check.due("lonely(), taken " + bits, taken(bits).lonely(), want);
        }
    }

    private static void gapAtEachEnd() {
        for (int bits = 0; bits < 32; bits++) {
            int longest = 0;
            for (int from = 0; from < 5; from++) {
                for (int to = from; to < 5; to++) {
                    int run = (1 << to + 1) - (1 << from);
                    if ((bits & run) == 0) {
                        longest = Math.max(longest, to - from + 1);
                    }
                }
            }
            Check.due("gap(), taken " + bits, taken(bits).gap(), longest);
            DeckChairs shut = Check.told(FIVE_CHAIRS);
            for (int c = 0; c < 5; c++) {
                if ((bits >> c & 1) != 0) {
                    shut.move(c, 0);
                }
            }
            Check.due("gap(), shut " + bits, shut.gap(), longest);
        }
    }

    private static void couplesInTheRow() {
        for (int bits = 0; bits < 32; bits++) {
            int want = 0;
            for (int c = 0; c < 4; c++) {
                want += (bits >> c & 3) == 3 ? 1 : 0;
            }
            Check.due("couples(), taken " + bits, taken(bits).couples(), want);
        }
    }

    private static void brokeByOne() {
        DeckChairs x = Check.told(FIVE_CHAIRS + "sitter s purse 6 likes 0;sitter t purse 7 likes 0;sitter u purse 8 likes 0;"
                + "sitter v purse 0 likes 0;sitter w purse 6 likes 0;had 7;");
        Check.due("nobody SITS", x.broke(), 0);
        for (int s = 0; s < 3; s++) {
            x.sit(s, s);
        }
        Check.due("one less, as much, one more", x.broke(), 1);
        x.sit(4, 4);
        Check.due("the last one, too", x.broke(), 17);
        x.fill(4, 1);
        Check.due("his purse holds it", x.broke(), 1);
        Check.due("nobody got up", x.about(3), 23);
        // Each by what is so now: neither is alone yet, though the first one will get up.
        DeckChairs y = Check.told("chair a stripes 0;chair b stripes 0;sitter s purse 4 likes 0;sitter t purse 5 likes 0;"
                + "had 5 + alone * 2;");
        y.sit(0, 0);
        y.sit(1, 1);
        Check.due("by what is so now", y.broke(), 1);
    }

    private static void throneOfLikeOnes() {
        DeckChairs x = Check.told(FIVE_CHAIRS + FIVE_SITTERS + "had 0;");
        Check.due("no SAND anywhere", x.throne(), 0);
        x.sit(0, 4);
        x.hour();
        Check.due("the last one", x.throne(), 4);
        x.sit(1, 3);
        x.rise(0);
        x.hour();
        Check.due("of like ones the first", x.throne(), 3);
        x.hour();
        Check.due("with most", x.throne(), 3);
        Check.due("no CHAIRS", Check.told(FIVE_SITTERS).throne(), -1);
        Check.due("a shut one", Check.told("chair a stripes 0 shut 1 1 1;").throne(), 0);
    }

    private static void veteranOfThoseWhoSit() {
        DeckChairs x = Check.told(FIVE_CHAIRS + FIVE_SITTERS + "had 0;");
        Check.due("nobody SITS", x.veteran(), -1);
        x.sit(4, 0);
        Check.due("the only one, SAT 0", x.veteran(), 4);
        x.sit(3, 1);
        Check.due("of like ones the first", x.veteran(), 3);
        x.rise(3);
        x.hour();
        x.sit(3, 1);
        Check.due("who SAT longest", x.veteran(), 4);
        x.rise(4);
        Check.due("who SITS", x.veteran(), 3);
        x.rise(3);
        Check.due("nobody SITS any more", x.veteran(), -1);
        x.sit(1, 0);
        x.sit(0, 1);
        Check.due("the very first one", x.veteran(), 0);
        Check.due("no SITTERS", Check.told(FIVE_CHAIRS).veteran(), -1);
    }

    private static void richestOfLikeOnes() {
        DeckChairs x = Check.told("sitter s purse 0 likes 0;sitter t purse 0 likes 0;sitter u purse 0 likes 0;"
                + "sitter v purse 0 likes 0;sitter w purse 1 likes 0;");
        Check.due("the last one", x.richest(), 4);
        x.fill(3, 1);
        Check.due("of like ones the first", x.richest(), 3);
        x.fill(4, 1);
        Check.due("with most", x.richest(), 4);
        Check.due("all empty", Check.told("sitter s purse 0 likes 0;sitter t purse 0 likes 0;").richest(), 0);
        Check.due("no SITTERS", Check.told(FIVE_CHAIRS).richest(), -1);
    }

    private static void takingsOfAll() {
        DeckChairs x = Check.told(FIVE_CHAIRS + FIVE_SITTERS + "had 1 + likes;");
        Check.due("nothing yet", x.takings(), 0);
        for (int s = 0; s < 5; s++) {
            x.sit(s, s);
        }
        Check.due("nothing is paid by sitting down", x.takings(), 0);
        Check.due("hour()", x.hour(), 15);
        Check.due("of all five", x.takings(), 15);
        x.rise(4);
        Check.due("of one who got up, too", x.takings(), 15);
        x.fill(0, 99);
        Check.due("filling is not paying", x.takings(), 15);
        x.undo();
        x.undo();
        x.undo();
        Check.due("undone", x.takings(), 0);
    }

    private static void law0To99() {
        DeckChairs x = Check.told(THREE_CHAIRS + THREE_SITTERS + "had sand + likes;");
        Check.due("nobody SITS", x.law(99), 0);
        x.sit(0, 0);
        x.sit(2, 1);
        x.hour();
        Check.due("law(0)", x.law(0), 2);
        Check.due("law(1)", x.law(1), 4);
        Check.due("law(97)", x.law(97), 97 + 99);
        Check.due("law(98)", x.law(98), 98 + 99);
        Check.due("law(99), 99 at most each", x.law(99), 99 + 99);
        for (int sand : new int[] {MIN, -1, 100, MAX}) {
            Check.due("law(" + sand + ")", x.law(sand), -1);
        }
        Check.due("the SAND stays", x.chair(0, 1), 1);
        DeckChairs y = Check.told(FIVE_CHAIRS + FIVE_SITTERS + "had sand * 2 + likes + alone * 50 + sat * 10 + hour;");
        y.sit(4, 4);
        Check.due("the last one alone", y.law(3), 60);
        for (int s = 0; s < 4; s++) {
            y.sit(s, s);
        }
        Check.due("all five", y.law(3), 5 * 6 + 10);
        y.hour();
        Check.due("all five behind an hour", y.law(3), 5 * 6 + 10 + 50 + 5);
    }

    private static int common(int a, int b) {
        return b == 0 ? a : common(b, a % b);
    }

    private static void oddsInLowestTerms() {
        for (int gust = 0; gust <= 100; gust++) {
            DeckChairs x = Check.told("gust " + gust + ";draw 5;");
            int upper = 1;
            int lower = 1;
            for (int n = 0; n <= 4; n++) {
                int common = common(upper, lower);
                Check.due("upper part, gust " + gust + ", n " + n, x.odds(n, 0), upper / common);
                Check.due("lower part, gust " + gust + ", n " + n, x.odds(n, 1), lower / common);
                upper *= 100 - gust;
                lower *= 100;
            }
        }
        DeckChairs y = Check.told("gust 100;");
        Check.due("no HOUR: 1 of 1", y.odds(0, 0) * 10 + y.odds(0, 1), 11);
        Check.due("0 of 1", y.odds(1, 0) * 10 + y.odds(1, 1), 1);
        DeckChairs z = Check.told("gust 1;");
        Check.due("the upper part", z.odds(4, 0), 96059601);
        Check.due("the lower part", z.odds(4, 1), 100000000);
        for (int n : new int[] {MIN, -1, 5, MAX}) {
            Check.due("odds(" + n + ", 0)", z.odds(n, 0), -1);
            Check.due("odds(" + n + ", 1)", z.odds(n, 1), -1);
        }
        for (int part : new int[] {MIN, -1, 2, MAX}) {
            for (int n = 0; n <= 4; n++) {
                Check.due("odds(" + n + ", " + part + ")", z.odds(n, part), -1);
            }
        }
    }

    private static void whatLiesThere() {
        DeckChairs x = Check.told("chair a stripes 0 shut 0 2 1;chair b stripes 0;" + THREE_SITTERS);
        Check.due("nothing at first", x.lies(0), -2);
        Check.due("six MOVES", x.opening(0), 6);
        for (int i : new int[] {MIN, -1, 6, 7, 64, MAX}) {
            Check.due("lies(" + i + ")", x.lies(i), -2);
        }
        for (int i = 0; i < 6; i++) {
            int move = x.lies(i);
            Check.due("lies(" + i + ") is a MOVE", move >= 0 && move <= 3, true);
        }
        x.seat();
        Check.lies("what lay there before is gone", x, -1, -1, 1);
        x.rivals(0, 1);
        Check.lies("both for the only one", x, 1, 1);
        x.ring();
        Check.lies("nobody SITS", x, -1, -1, -1);
        x.opening(1);
        Check.lies("no MOVES", x);
        x.seat();
        x.sit(0, 1);
        x.hour();
        x.undo();
        x.redo();
        x.image(0);
        x.back(0);
        x.later(1);
        x.seen(0, 0, true);
        x.toll(0);
        x.trade(0);
        Check.lies("what lays nothing down leaves it", x, -1, -1, 1);
    }
}
