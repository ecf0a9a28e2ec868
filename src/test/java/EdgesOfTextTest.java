/** Terms 1, promises 1 to 5: each limit of the TAPE and of the text, the last that can be and the first that can't. */
public final class EdgesOfTextTest {
    private static final int MIN = Integer.MIN_VALUE;
    private static final int MAX = Integer.MAX_VALUE;
    private static final String ONE_SITTER = "chair a stripes 0;sitter s purse 0 likes 0;";
    private static final String[] STANDING_WORDS = {"chair", "stripes", "shut", "sitter", "purse", "likes", "had", "gust",
        "draw", "or", "and", "not", "alone", "sat", "sand", "hour"};

    private EdgesOfTextTest() {
    }

    public static void main(String[] args) {
        tapeTakesTwentyAtATime();
        tapeHolds1600();
        tapeIsCut();
        textOf1600Bytes();
        textOfNoBytes();
        everyByteAlone();
        everyByteBehindAWord();
        everyByteBehindAnN();
        wordsOfEightLetters();
        numbersOfFourDigits();
        tokensAsLongAsCanBe();
        noLetterBehindAnN();
        wordsThatStandForThemselves();
        fiveChairs();
        fiveSitters();
        onceEach();
        stripes();
        joints();
        purses();
        likings();
        gusts();
        draws();
        numbersInAFormula();
        numberedAsTold();
        thirtyUnits();
        sevenWithinOneAnother();
        oneRelation();
        theEnd();
        theFirstByItsPlace();
        atOnePlaceTheLeast();
        faultOfTheLatestBeach();
        oneFormulaBehindAnother();
        allStaysBehindAFault();
        allAsToldBehindABeach();
        Check.end("EdgesOfTextTest");
    }

    private static DeckChairs right(String text, int sitters) {
        DeckChairs x = new DeckChairs();
        Check.due("beach() of " + text, Check.tell(x, text), sitters);
        Check.due("fault(0) of " + text, x.fault(0), 0);
        Check.due("fault(1) of " + text, x.fault(1), -1);
        return x;
    }

    // ---- the TAPE ----

    private static void tapeTakesTwentyAtATime() {
        DeckChairs x = new DeckChairs();
        Check.due("bytes at first", x.about(10), 0);
        Check.due("the first twenty", x.feed(0, 0, 0, 0, 0), 20);
        Check.due("twenty more", x.feed(-1, -1, -1, -1, -1), 40);
        Check.due("bytes then", x.about(10), 40);
        DeckChairs y = new DeckChairs();
        // "gust", " 12;", "draw", " 345", ";" and three blanks: each number's highest byte comes first.
        y.feed(0x67757374, 0x2031323b, 0x64726177, 0x20333435, 0x3b202020);
        Check.due("in their order", y.beach(), 0);
        Check.due("gust", y.about(13), 12);
        Check.due("draw", y.about(5), 345);
    }

    private static void tapeHolds1600() {
        DeckChairs x = new DeckChairs();
        for (int i = 1; i <= 80; i++) {
            Check.due("feed " + i, x.feed(0x20202020, 0x20202020, 0x20202020, 0x20202020, 0x20202020), 20 * i);
        }
        Check.due("the 81st", x.feed(0, 0, 0, 0, 0), -1);
        Check.due("nothing comes", x.about(10), 1600);
        for (int n = 1599; n > 1580; n--) {
            x.end(n);
            Check.due("twenty behind " + n, x.feed(0, 0, 0, 0, 0), -1);
            Check.due("there are " + n, x.about(10), n);
        }
        x.end(1580);
        Check.due("twenty behind 1,580", x.feed(0x20202020, 0x20202020, 0x20202020, 0x20202020, 0x20202020), 1600);
        Check.due("nothing of what was refused came", x.beach(), 0);
        Check.due("the TAPE is empty behind beach()", x.about(10), 0);
        Check.due("it takes twenty again", x.feed(0, 0, 0, 0, 0), 20);
    }

    private static void tapeIsCut() {
        DeckChairs x = new DeckChairs();
        Check.due("none of none", x.end(0), 0);
        Check.due("one of none", x.end(1), -1);
        Check.due("below 0", x.end(-1), -1);
        Check.feed(x, "gust 5;draw 8;;");
        Check.due("as many as it has", x.end(15), 15);
        Check.due("one more", x.end(16), -1);
        Check.due("far more", x.end(MAX), -1);
        Check.due("far below", x.end(MIN), -1);
        Check.due("-1", x.end(-1), -1);
        Check.due("it has them still", x.about(10), 15);
        Check.due("one less", x.end(14), 14);
        Check.due("what is cut off is gone", x.end(15), -1);
        x.end(7);
        // "draw", " 9;" and blanks come behind the seven that are left.
        Check.due("behind the first seven", x.feed(0x64726177, 0x20393b20, 0x20202020, 0x20202020, 0x20202020), 27);
        Check.due("both lines are read", x.beach(), 0);
        Check.due("gust", x.about(13), 5);
        Check.due("draw", x.about(5), 9);
        Check.feed(x, "gust 5;");
        Check.due("none of seven", x.end(0), 0);
        x.beach();
        Check.due("an empty text tells no gust", x.about(13), 0);
    }

    private static void textOf1600Bytes() {
        DeckChairs x = right(" ".repeat(1593) + "gust 9;", 0);
        Check.due("its last line counts", x.about(13), 9);
        Check.fault(" ".repeat(1594) + "gust 9", 2, 1600);
        Check.fault(" ".repeat(1599) + "#", 1, 1599);
        Check.fault(";".repeat(1600), 2, 0);
        Check.fault("a".repeat(1600), 1, 0);
        Check.fault("had " + "1".repeat(1596), 1, 4);
        Check.fault("had " + "(".repeat(1596), 2, 11);
        Check.fault("had " + "not ".repeat(399), 2, 4 + 28);
        Check.fault("had 1" + "+1".repeat(797) + ";", 2, 4 + 60);
    }

    private static void textOfNoBytes() {
        right("", 0);
        right(" ", 0);
        right("\n", 0);
        Check.due("no CHAIRS", right("", 0).about(1), 0);
    }

    // ---- TOKENS ----

    private static boolean isBlank(int b) {
        return b == 32 || b == 10;
    }

    private static boolean isSign(int b) {
        return b > 0 && ";()<>=+-*/%".indexOf(b) >= 0;
    }

    private static boolean isLetter(int b) {
        return "abcdefghijklmnopqrstuvwxyz".indexOf(b) >= 0;
    }

    private static boolean isDigit(int b) {
        return "0123456789".indexOf(b) >= 0;
    }

    private static void everyByteAlone() {
        for (int b = 0; b < 256; b++) {
            String text = "" + (char) b;
            if (isBlank(b)) {
                right(text, 0);
            } else {
                Check.fault(text, isSign(b) || isLetter(b) || isDigit(b) ? 2 : 1, 0);
                Check.fault("gust 1;" + text, isSign(b) || isLetter(b) || isDigit(b) ? 2 : 1, 7);
            }
        }
    }

    private static void everyByteBehindAWord() {
        for (int b = 0; b < 256; b++) {
            String text = "gust" + (char) b + "7;";
            if (isBlank(b)) {
                Check.due("a blank " + b, right(text, 0).about(13), 7);
            } else if (isDigit(b)) {
                Check.due("a digit " + b, right(text, 0).about(13), 10 * (b - '0') + 7);
            } else if (isLetter(b)) {
                Check.fault(text, 2, 0);
            } else {
                Check.fault(text, isSign(b) ? 2 : 1, 4);
            }
        }
    }

    private static void everyByteBehindAnN() {
        for (int b = 0; b < 256; b++) {
            String text = ONE_SITTER + "had 4" + (char) b + "2;";
            int at = ONE_SITTER.length() + 4;
            if (isBlank(b)) {
                Check.fault(text, 2, at + 2);
            } else if (isDigit(b)) {
                Check.due("a digit " + b, right(text, 1).had(0, 0), Math.min(99, 402 + 10 * (b - '0')));
            } else if (isLetter(b)) {
                Check.fault(text, 1, at);
            } else if (b == ';') {
                Check.fault(text, 2, at + 2);
            } else if (b == '(' || b == ')') {
                Check.fault(text, 2, at + 1);
            } else if (isSign(b)) {
                int[] want = {6, 2, 8, 2, 0, 0, 1, 0};
                Check.due("a sign " + (char) b, right(text, 1).had(0, 0), want["+-*/%<>=".indexOf(b)]);
            } else {
                Check.fault(text, 1, at + 1);
            }
        }
    }

    private static void wordsOfEightLetters() {
        right("chair abcdefgh stripes 0;", 0);
        Check.fault("chair abcdefghi stripes 0;", 1, 6);
        right("sitter zzzzzzzz purse 0 likes 0;", 1);
        Check.fault("sitter zzzzzzzzz purse 0 likes 0;", 1, 7);
        right("chair a stripes 0;", 0);
        // Eight letters are a TOKEN where it can't stand, nine are none.
        Check.fault("chairsss a stripes 0;", 2, 0);
        Check.fault("chairssss a stripes 0;", 1, 0);
        Check.fault("chair a stripess 0;", 2, 8);
        Check.fault("chair a stripesss 0;", 1, 8);
        Check.fault("had abcdefgh;", 2, 4);
        Check.fault("had abcdefghi;", 1, 4);
        // Two NAMES that part at their eighth letter alone, or in their length.
        right("chair abcdefgh stripes 0;chair abcdefgi stripes 0;", 0);
        for (char letter = 'a'; letter <= 'z'; letter++) {
            StringBuilder text = new StringBuilder();
            for (int n = 4; n <= 8; n++) {
                text.append("chair ").append(String.valueOf(letter).repeat(n)).append(" stripes 0;");
                text.append("sitter ").append(String.valueOf(letter).repeat(n - 3)).append(" purse 0 likes 0;");
            }
            right(text.toString(), 5);
        }
        right("chair az stripes 0;chair ba stripes 0;chair b stripes 0;chair zb stripes 0;", 0);
    }

    private static void numbersOfFourDigits() {
        Check.due("one digit", right("draw 7;", 0).about(5), 7);
        Check.due("four digits", right("draw 0007;", 0).about(5), 7);
        Check.due("four digits", right("gust 0100;", 0).about(13), 100);
        Check.fault("draw 00007;", 1, 5);
        Check.fault("gust 00100;", 1, 5);
        right("had 9999;", 0);
        Check.fault("had 10000;", 1, 4);
        Check.fault("had 00000;", 1, 4);
        Check.fault("had 99999999999999999999;", 1, 4);
        Check.fault("chair a stripes 00001;", 1, 16);
    }

    private static void tokensAsLongAsCanBe() {
        // Blanks part TOKENS where they would be one; elsewhere they need not.
        right("chair a stripes0shut".replace("0shut", "0 shut") + "0 0 0;", 0);
        right("chair\na\nstripes\n0\nshut\n0\n0\n0\n;\n", 0);
        right("had(1)and(2);", 0);
        right("had not(1)or(2);", 0);
        Check.fault("chaira stripes 0;", 2, 0);
        Check.fault("chair astripes 0;", 2, 15);
        Check.fault("had notnot 1;", 2, 4);
        Check.fault("had not1or2;", 1, 7);
        Check.fault("chair a stripes 0 shut 0 00;", 2, 27);
        Check.fault("gust 1 0;", 2, 7);
        Check.fault("g ust 1;", 2, 0);
    }

    private static void noLetterBehindAnN() {
        right("had 1 or 2;", 0);
        Check.fault("had 1or 2;", 1, 4);
        Check.fault("chair a stripes 0shut 0 0 0;", 1, 16);
        right("chair a stripes 0 shut 0 0 0;", 0);
        Check.fault("sitter s purse 0likes 0;", 1, 15);
        Check.fault("gust 100a;", 1, 5);
        Check.fault("gust 1z", 1, 5);
        // A letter before it is fine, and so is a sign behind it.
        right("gust0;", 0);
        right("gust\n0;", 0);
    }

    private static void wordsThatStandForThemselves() {
        for (String word : STANDING_WORDS) {
            Check.fault("chair " + word + " stripes 0;", 2, 6);
            Check.fault("sitter " + word + " purse 0 likes 0;", 2, 7);
            // One letter more or less is a NAME.
            right("chair " + word + "x stripes 0;", 0);
            right("sitter " + word.substring(0, word.length() - 1) + " purse 0 likes 0;", 1);
        }
        // Words that just name parts of the grammar, or of the document, are NAMES.
        for (String word : new String[] {"beach", "line", "e", "both", "one", "sum", "term", "unit", "n", "name", "open"}) {
            right("chair " + word + " stripes 0;sitter " + word + " purse 0 likes 0;", 1);
        }
    }

    // ---- how many ----

    private static String chairs(int n) {
        StringBuilder text = new StringBuilder();
        for (int i = 0; i < n; i++) {
            text.append("chair c").append((char) ('a' + i)).append(" stripes ").append(i).append(";");
        }
        return text.toString();
    }

    private static String sitters(int n) {
        StringBuilder text = new StringBuilder();
        for (int i = 0; i < n; i++) {
            text.append("sitter s").append((char) ('a' + i)).append(" purse 9 likes ").append(i).append(";");
        }
        return text.toString();
    }

    private static void fiveChairs() {
        for (int n = 0; n <= 5; n++) {
            DeckChairs x = right(chairs(n), 0);
            Check.due("CHAIRS", x.about(1), n);
            Check.due("all are OPEN", x.about(2), (1 << n) - 1);
            Check.due("the last one", x.chair(n - 1, 0), n == 0 ? -2 : n - 1);
            Check.due("one behind it", x.chair(n, 0), -2);
        }
        Check.fault(chairs(6), 2, chairs(5).length());
        Check.fault(chairs(5) + "chair", 2, chairs(5).length());
        Check.fault(chairs(5) + sitters(5) + "\nchair ca stripes 99;", 2, chairs(5).length() + sitters(5).length() + 1);
        right(chairs(5) + sitters(5), 5);
    }

    private static void fiveSitters() {
        for (int n = 0; n <= 5; n++) {
            DeckChairs x = right(sitters(n), n);
            Check.due("SITTERS", x.about(0), n);
            Check.due("the last one", x.sitter(n - 1, 0), n == 0 ? -2 : n - 1);
            Check.due("one behind him", x.sitter(n, 0), -2);
        }
        Check.fault(sitters(6), 2, sitters(5).length());
        Check.fault(sitters(5) + "sitter", 2, sitters(5).length());
        Check.fault(sitters(5) + " sitter sa purse 999 likes 99;", 2, sitters(5).length() + 1);
    }

    private static void onceEach() {
        right("had 1;gust 1;draw 1;", 0);
        Check.fault("had 1;had 1;", 2, 6);
        Check.fault("gust 1;gust 1;", 2, 7);
        Check.fault("draw 1;draw 1;", 2, 7);
        // A second one, though the first one told what holds anyhow.
        Check.fault("gust 0;gust 0;", 2, 7);
        Check.fault("draw 0;draw 0;", 2, 7);
        Check.fault("gust 0;draw 0;had 0;\ngust 5;", 2, 21);
        Check.fault("gust 0;draw 0;had 0;\ndraw 5;", 2, 21);
        Check.fault("gust 0;draw 0;had 0;\nhad 5;", 2, 21);
        DeckChairs x = right("", 0);
        Check.due("gust is 0 if it is not told", x.about(13), 0);
        Check.due("draw is 0 if it is not told", x.about(5), 0);
    }

    // ---- numbers ----

    private static void stripes() {
        for (int n = 0; n <= 9; n++) {
            Check.due("stripes " + n, right("chair a stripes " + n + ";", 0).chair(0, 0), n);
        }
        Check.fault("chair a stripes 10;", 4, 16);
        Check.fault("chair a stripes 9999;", 4, 16);
        Check.due("0009", right("chair a stripes 0009;", 0).chair(0, 0), 9);
        Check.fault("chair a stripes 0010;", 4, 16);
    }

    private static void joints() {
        DeckChairs x = right("chair a stripes 0;", 0);
        Check.due("0 all if not told", x.chair(0, 4) + x.chair(0, 5) + x.chair(0, 6), 0);
        Check.due("OPEN then", x.chair(0, 3), 1);
        for (int joint = 0; joint < 3; joint++) {
            for (int n = 0; n <= 4; n++) {
                String shut = (joint == 0 ? n : 0) + " " + (joint == 1 ? n : 0) + " " + (joint == 2 ? n : 0);
                String text = "chair a stripes 0 shut " + shut + ";";
                if (n == 4) {
                    Check.fault(text, 4, 23 + 2 * joint);
                } else {
                    DeckChairs y = right(text, 0);
                    for (int i = 0; i < 3; i++) {
                        Check.due("JOINT " + i + " of " + shut, y.chair(0, 4 + i), i == joint ? n : 0);
                    }
                    Check.due("OPEN if all are 0: " + shut, y.chair(0, 3), n == 0 ? 1 : 0);
                }
            }
        }
        Check.fault("chair a stripes 0 shut;", 2, 22);
        Check.fault("chair a stripes 0 shut 0;", 2, 24);
        Check.fault("chair a stripes 0 shut 0 0;", 2, 26);
        Check.fault("chair a stripes 0 shut 0 0 0 0;", 2, 29);
        Check.fault("chair a stripes 0 shut 0 0 0 shut 0 0 0;", 2, 29);
    }

    private static void purses() {
        Check.due("purse 0", right("sitter s purse 0 likes 0;", 1).sitter(0, 1), 0);
        Check.due("purse 99", right("sitter s purse 99 likes 0;", 1).sitter(0, 1), 99);
        Check.fault("sitter s purse 100 likes 0;", 4, 15);
        Check.fault("sitter s purse 9999 likes 0;", 4, 15);
    }

    private static void likings() {
        Check.due("likes 0", right("sitter s purse 0 likes 0;", 1).sitter(0, 0), 0);
        Check.due("likes 9", right("sitter s purse 0 likes 9;", 1).sitter(0, 0), 9);
        Check.fault("sitter s purse 0 likes 10;", 4, 23);
        Check.fault("sitter s purse 0 likes 9999;", 4, 23);
    }

    private static void gusts() {
        Check.due("gust 0", right("gust 0;", 0).about(13), 0);
        Check.due("gust 100", right("gust 100;", 0).about(13), 100);
        Check.fault("gust 101;", 4, 5);
        Check.fault("gust 9999;", 4, 5);
    }

    private static void draws() {
        Check.due("draw 0", right("draw 0;", 0).about(5), 0);
        Check.due("draw 999", right("draw 999;", 0).about(5), 999);
        Check.fault("draw 1000;", 4, 5);
        Check.fault("draw 9999;", 4, 5);
    }

    private static void numbersInAFormula() {
        // A formula's numbers have no limit but their digits.
        DeckChairs x = right(ONE_SITTER + "had 9999 - 9998 + (9999 = 9999) * 10;", 1);
        Check.due("9,999 is what it is", x.had(0, 0), 11);
        Check.due("0 is what it is", right(ONE_SITTER + "had 0000;", 1).had(0, 0), 0);
    }

    private static void numberedAsTold() {
        DeckChairs x = right("sitter x purse 1 likes 1;chair x stripes 1;gust 3;chair w stripes 2;had 1;"
                + "sitter w purse 2 likes 2;chair v stripes 3;", 2);
        for (int i = 0; i < 3; i++) {
            Check.due("CHAIR " + i, x.chair(i, 0), i + 1);
        }
        for (int i = 0; i < 2; i++) {
            Check.due("SITTER " + i, x.sitter(i, 1), i + 1);
        }
        // A NAME is told already just of its sort.
        Check.fault("sitter x purse 1 likes 1;chair x stripes 1;chair x stripes 1;", 3, 49);
        Check.fault("chair x stripes 1;sitter x purse 1 likes 1;sitter x purse 1 likes 1;", 3, 50);
        // Each of the names before counts, the first and the latest.
        String four = chairs(4);
        Check.fault(four + "chair ca stripes 0;", 3, four.length() + 6);
        Check.fault(four + "chair cd stripes 0;", 3, four.length() + 6);
        four = sitters(4);
        Check.fault(four + "sitter sa purse 0 likes 0;", 3, four.length() + 7);
        Check.fault(four + "sitter sd purse 0 likes 0;", 3, four.length() + 7);
    }

    // ---- units ----

    private static String joined(String unit, int n) {
        return unit + ("+" + unit).repeat(n - 1);
    }

    private static void thirtyUnits() {
        Check.due("no units if had is not told", right("", 0).about(11), 0);
        Check.due("one unit", right("had 1;", 0).about(11), 1);
        for (String unit : new String[] {"7", "stripes", "likes", "alone", "sat", "sand", "hour"}) {
            Check.due("29 units", right("had " + joined(unit, 29) + ";", 0).about(11), 29);
            Check.due("30 units", right("had " + joined(unit, 30) + ";", 0).about(11), 30);
            int place = 4 + 30 * (unit.length() + 1);
            Check.fault("had " + joined(unit, 31) + ";", 2, place);
        }
        // ( e ) is a unit, and what stands in it, too.
        Check.due("(1) is two", right("had (1);", 0).about(11), 2);
        Check.due("fifteen times (1)", right("had " + joined("(1)", 15) + ";", 0).about(11), 30);
        String fifteen = "had " + joined("(1)", 15);
        Check.fault(fifteen + "+1;", 2, fifteen.length() + 1);
        Check.fault(fifteen + "+(1);", 2, fifteen.length() + 1);
        String fourteen = "had " + joined("(1)", 14) + "+1";
        Check.fault(fourteen + "+(1);", 2, fourteen.length() + 2);
        Check.due("29 and one", right(fourteen + "+1;", 0).about(11), 30);
        // Signs of every kind between them, nots before them: just units count.
        String mixed = "had not 1+1-1*1/1%1<1 and not 1>1 or 1=1 ";
        Check.due("eleven units", right(mixed + ";", 0).about(11), 11);
        Check.due("thirty units", right(mixed + "or " + joined("1", 19) + ";", 0).about(11), 30);
        Check.fault(mixed + "or " + joined("1", 20) + ";", 2, mixed.length() + 3 + 38);
        // What was told before does not count.
        DeckChairs x = new DeckChairs();
        for (int i = 0; i < 3; i++) {
            Check.due("thirty, time " + i, Check.tell(x, "had " + joined("1", 30) + ";"), 0);
            Check.due("31, time " + i, Check.tell(x, "had " + joined("1", 31) + ";"), -1);
            Check.due("of thirty, time " + i, x.about(11), 30);
            x.end(0);
        }
    }

    /** All rows of ( and not: seven within one another can be, the eighth one can't, and is where the FAULT is. */
    private static void sevenWithinOneAnother() {
        for (int n = 1; n <= 8; n++) {
            for (int bits = 0; bits < 1 << n; bits++) {
                StringBuilder text = new StringBuilder("had ");
                int last = 0;
                for (int i = 0; i < n; i++) {
                    last = text.length();
                    text.append((bits >> i & 1) != 0 ? "(" : "not ");
                }
                text.append("1").append(")".repeat(Integer.bitCount(bits))).append(";");
                if (n <= 7) {
                    right(text.toString(), 0);
                } else {
                    Check.fault(text.toString(), 2, last);
                }
            }
        }
        // Within is not side by side.
        right("had " + joined("((((((1))))))", 4) + ";", 0);
        right("had (((((((1)))))))+(((((((1)))))));", 0);
        right("had (not (not (not (1)) and not 1) and not (not 1));", 0);
        Check.fault("had (((((((1)))))))+((((((((1))))))));", 2, 27);
        Check.fault("had not not not not not not not 1 and not not not not not not not not 1;", 2, 66);
    }

    private static void oneRelation() {
        for (String sign : new String[] {"<", ">", "="}) {
            right("had 1" + sign + "2;", 0);
            Check.fault("had 1" + sign + "2" + sign + "3;", 2, 7);
            right("had (1" + sign + "2)" + sign + "3;", 0);
            right("had 1" + sign + "2 and 1" + sign + "2;", 0);
            Check.fault("had " + sign + "1;", 2, 4);
            Check.fault("had 1" + sign + ";", 2, 6);
            Check.fault("had 1" + sign + "not 1;", 2, 6);
        }
        // not stands before a one, never before a sum.
        right("had not 1 + 1;", 0);
        Check.fault("had 1 + not 1;", 2, 8);
        Check.fault("had 1 * not 1;", 2, 8);
        right("had 1 * (not 1);", 0);
    }

    // ---- FAULTS ----

    /** A text that breaks off: the place is the text's length, blanks at its end counted. */
    private static void theEnd() {
        String text = "chair aa stripes 5 shut 1 2 3 ; sitter ss purse 9 likes 9 ; had not ( 1 + 2 ) < 3 and 4 or 5 ; gust 1 ; draw 2 ;";
        for (int n = 0; n < text.length(); n++) {
            boolean betweenTokens = text.charAt(n) == ' ' || n > 0 && text.charAt(n - 1) == ' ';
            String part = text.substring(0, n);
            if (betweenTokens && !part.trim().isEmpty() && !part.trim().endsWith(";")) {
                Check.fault(part, 2, n);
                Check.fault(part + "\n  \n", 2, n + 4);
            } else if (part.trim().endsWith(";")) {
                right(part, part.contains("sitter") ? 1 : 0);
            }
        }
        right(text, 1);
    }

    private static void theFirstByItsPlace() {
        String[] faults = {"# ", "; ", "chair z stripes 0;chair z stripes 0;", "gust 101;"};
        int[] places = {0, 0, 24, 5};
        for (int i = 0; i < 4; i++) {
            for (int j = 0; j < 4; j++) {
                Check.fault(faults[i] + faults[j], i + 1, places[i]);
                Check.fault("draw 1;" + faults[i] + faults[j], i + 1, places[i] + 7);
            }
        }
        // What a whole line is charged with stands at its first word, before all that is in it.
        Check.fault(chairs(5) + "chair ca stripes 10 # ;", 2, chairs(5).length());
        Check.fault("gust 1;gust 101;", 2, 7);
        Check.fault("had 1;had #;", 2, 6);
    }

    private static void atOnePlaceTheLeast() {
        // What is no TOKEN can't stand there, either.
        Check.fault("#", 1, 0);
        Check.fault("gust #", 1, 5);
        Check.fault("had 1 #", 1, 6);
        Check.fault("had " + joined("1", 30) + "+#", 1, 4 + 60);
        Check.fault("had (((((((#", 1, 11);
        Check.fault("gust 00101;", 1, 5);
        Check.fault("gust 101a;", 1, 5);
        Check.fault("chair 12345 stripes 0;", 1, 6);
        // A number where none can stand is no number that can't be.
        Check.fault("chair 9999 stripes 0;", 2, 6);
        Check.fault("9999", 2, 0);
        Check.fault("chair a stripes 0 9999;", 2, 18);
        Check.fault("had 1 9999;", 2, 6);
        // A NAME told already where none can stand.
        Check.fault("chair a stripes 0;a", 2, 18);
        Check.fault("chair a stripes 0;chair b a", 2, 26);
    }

    private static void faultOfTheLatestBeach() {
        DeckChairs x = new DeckChairs();
        Check.due("before the first beach()", x.fault(0), 0);
        Check.due("before the first beach()", x.fault(1), -1);
        Check.tell(x, "   #");
        Check.due("what 0", x.fault(0), 1);
        Check.due("what 1", x.fault(1), 3);
        for (int what : new int[] {MIN, -2, -1, 2, 3, MAX}) {
            Check.due("what " + what, x.fault(what), -1);
        }
        x.end(0);
        Check.tell(x, "#");
        Check.due("another FAULT", x.fault(1), 0);
        Check.due("its number", x.fault(0), 1);
        x.end(0);
        x.feed(0, 0, 0, 0, 0);
        x.end(0);
        Check.due("feed() and end() leave it", x.fault(0), 1);
        x.beach();
        Check.due("behind one without", x.fault(0), 0);
        Check.due("behind one without", x.fault(1), -1);
        for (int what : new int[] {MIN, -1, 2, MAX}) {
            Check.due("what " + what, x.fault(what), -1);
        }
    }

    /** Of a formula told before nothing is left, be it shorter or longer, right or with a FAULT. */
    private static void oneFormulaBehindAnother() {
        DeckChairs x = new DeckChairs();
        String[] formulas = {"5", "7", "1 + 1 + 1", "9", "(2)", "4 * 4", "", "3"};
        int[] want = {5, 7, 3, 9, 2, 16, 7, 3};
        for (int i = 0; i < formulas.length; i++) {
            Check.tell(x, ONE_SITTER + (formulas[i].isEmpty() ? "" : "had " + formulas[i] + ";"));
            Check.due("had " + formulas[i], x.had(0, 0), want[i]);
            Check.due("a FAULT behind it", Check.tell(x, ONE_SITTER + "had 8 + 8 + ;"), -1);
            Check.due("had " + formulas[i] + " stays", x.had(0, 0), want[i]);
            x.end(0);
        }
    }

    /** Everything is as it was before, the TAPE, too: each number of FAULT, read to its very end or at once. */
    private static void allStaysBehindAFault() {
        String[] texts = {"gust 5;#", "gust 5;gust", "chair z stripes 1;chair z", "draw 8;gust 101", "had 1+",
            "sitter p purse 1 likes 1;sitter q purse 2 likes 2;sitter p", "chair p stripes 5 shut 3 3 3;had 9;draw 7;x"};
        for (String text : texts) {
            Twins.Calls before = x -> {
                RefusedTest.rich(x);
                x.end(0);
                Check.feed(x, text);
                // So that fault() tells the same of both.
                x.beach();
            };
            Twins.refused("a FAULT in " + text, before, x -> x.beach(), -1);
            DeckChairs x = new DeckChairs();
            RefusedTest.rich(x);
            x.end(0);
            Check.feed(x, text);
            String was = Twins.look(x).replaceAll("fault.*", "");
            x.beach();
            Twins.same("the first FAULT in " + text, Twins.look(x).replaceAll("fault.*", ""), was);
            Check.due("what lies there stays", x.about(12), 3);
            Check.due("the TAPE stays", x.about(10), text.length());
        }
    }

    private static void allAsToldBehindABeach() {
        DeckChairs x = new DeckChairs();
        RefusedTest.rich(x);
        int time = x.about(9);
        Check.due("there is a TIME", time > 0, true);
        x.end(0);
        Check.due("the same told again", Check.tell(x, RefusedTest.RICH), 3);
        DeckChairs y = new DeckChairs();
        y.later(time);
        Check.tell(y, RefusedTest.RICH);
        Twins.same("a BEACH told again", Twins.trace(x, true), Twins.trace(y, true));
        RefusedTest.rich(x);
        x.end(0);
        Check.due("an empty one", x.beach(), 0);
        int[] want = {0, 0, 0, 0, 0, 0, 0, 0, 0, x.about(9), 0, 0, 0, 0};
        for (int what = 0; what < want.length; what++) {
            Check.due("about(" + what + ") behind an empty one", x.about(what), want[what]);
        }
        Check.due("nothing lies there", x.lies(0), -2);
        Check.due("nothing to be undone", x.undo(), false);
        Check.due("nothing to be redone", x.redo(), false);
        for (int box = 0; box < 3; box++) {
            Check.due("BOX " + box, x.back(box), -1);
        }
        Check.due("the TIME stays", x.about(9) >= time, true);
    }
}
