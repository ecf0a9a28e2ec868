import java.lang.reflect.Method;
import java.lang.reflect.Modifier;
import java.util.ArrayList;
import java.util.List;
import java.util.Set;
import java.util.TreeSet;
import java.util.regex.Matcher;
import java.util.regex.Pattern;

/** The document from its first line to the end of Terms 1, sentence by sentence. */
public final class SentencesOfTextTest {
    private static final String FACE = "public final class DeckChairs {"
            + " public static final int NONE = -1;"
            + " public DeckChairs();"
            + " public int feed(int a, int b, int c, int d, int e);"
            + " public int end(int n);"
            + " public int beach();"
            + " public int fault(int what);"
            + " public int chair(int chair, int what);"
            + " public int sitter(int sitter, int what);"
            + " public int had(int sitter, int chair);"
            + " public int hour();"
            + " public int sit(int sitter, int chair);"
            + " public int rise(int sitter);"
            + " public int change(int sitter, int other);"
            + " public int move(int chair, int move);"
            + " public int fill(int sitter, int more);"
            + " public boolean undo();"
            + " public boolean redo();"
            + " public int will(int sitter, int n);"
            + " public int standing(int n);"
            + " public int out(int sitter);"
            + " public int seat();"
            + " public int toll(int sitter);"
            + " public int opening(int chair);"
            + " public int trade(int what);"
            + " public int ring();"
            + " public int envy(int sitter);"
            + " public int row(int chair, int other);"
            + " public int rivals(int sitter, int other);"
            + " public int best(int sitter, int what);"
            + " public int noon(int sitter, int chair);"
            + " public int lonely();"
            + " public int gap();"
            + " public int broke();"
            + " public int throne();"
            + " public int couples();"
            + " public int veteran();"
            + " public int richest();"
            + " public int takings();"
            + " public int law(int sand);"
            + " public int worst(int what);"
            + " public int odds(int n, int part);"
            + " public int lies(int i);"
            + " public int seen(int chair, int much, boolean is);"
            + " public boolean untell(int seen);"
            + " public int later(int by);"
            + " public int fits(int k);"
            + " public int sure(int what, int k);"
            + " public int ask(int what, int k);"
            + " public int image(int box);"
            + " public int back(int box);"
            + " public int about(int what);"
            + " }";
    private static final String ONE = "chair a stripes 3;sitter s purse 50 likes 4;";
    private static final String[] STANDING = {"chair", "stripes", "shut", "sitter", "purse", "likes", "had", "gust",
        "draw", "or", "and", "not", "alone", "sat", "sand", "hour"};

    private SentencesOfTextTest() {
    }

    public static void main(String[] args) throws Exception {
        whatItIs();
        lines();
        formula();
        tokens();
        howMany();
        faults();
        Document.quotedFrom("", "==== 2.");
        Check.end("SentencesOfTextTest");
    }

    private static void whatItIs() {
        Document.says("Deckchairs are let by the afternoon one is having: a lad comes round with a punch and asks what"
                + " you've got, and it's so much for nothing in particular, and for a long one, with somebody, it may be"
                + " as much as half a crown; chairs in a row with stripes and how they are shut, sitters with purses and"
                + " likings, how much is had in an hour as a whole formula, gusts, told in a text; hours in which all who"
                + " sit have it and pay for it, by told draws an empty chair shuts, sitters who sit down, get up and"
                + " change, moves of a chair's joints, purses filled, undone; what is had where, the seating by which most"
                + " is had, what each chair would cost others, the fewest moves by which one opens, all who would change"
                + " with one another, the ring by which all are gladder, whom one would turn out, who pays out when, the"
                + " way along the row, the best hour, two who make for a chair each, what a chair keeps of those before,"
                + " who sits alone; exact odds of no gust; what the last one likes, by what was had, known in two times,"
                + " the next chair to look at; images gone on from. ==== 1.", SentencesOfTextTest::anAfternoon);
        Document.says("An object is used for at most 512 calls after it has been made;"
                + " what later calls answer is free.", SentencesOfTextTest::calls512);
        Document.says(FACE, SentencesOfTextTest::face);
    }

    /** One beach by which each thing that is named is met once. */
    private static void anAfternoon() {
        DeckChairs x = new DeckChairs();
        Check.due("told in a text", Check.tell(x, "chair a stripes 1;chair b stripes 0 shut 1 2 3;chair c stripes 2;"
                + "sitter s purse 20 likes 3;sitter t purse 30 likes 0;had 5 + alone * 2 - stripes + likes + sand;"
                + "gust 50;draw 7;"), 2);
        Check.due("what is had where", x.had(0, 0), 9);
        Check.due("sits down", x.sit(0, 0), 9);
        Check.due("sits down", x.sit(1, 2), 5);
        Check.due("all who sit have it and pay for it", x.hour(), 14);
        Check.due("what a chair keeps of those before", x.had(1, 0), 7);
        Check.due("the fewest moves by which one opens", x.opening(1), 4);
        Check.due("who pays out when", x.out(0), 2);
        Check.due("the way along the row", x.row(0, 2), 0);
        Check.due("who sits alone", x.lonely(), 3);
        Check.due("gets up", x.rise(1), 2);
        Check.due("an empty chair may shut", x.standing(1), 1);
        Check.due("exact odds of no gust", x.odds(1, 0) * 10 + x.odds(1, 1), 12);
        Check.due("an image", x.image(0), 1);
        Check.due("purses filled", x.fill(1, 5), 30);
        Check.due("undone", x.undo(), true);
        Check.due("gone on from", x.back(0), 1);
        Check.due("what the last one likes", x.fits(0), 31);
    }

    private static void calls512() {
        DeckChairs x = new DeckChairs();
        int calls = 0;
        for (int i = 0; i < 2; i++) {
            // "sitter s purse 9 lik", "es 1;" and blanks
            x.feed(0x73697474, 0x65722073, 0x20707572, 0x73652039, 0x206c696b);
            x.feed(0x65732031, 0x3b202020, 0x20202020, 0x20202020, 0x20202020);
            Check.due("beach()", x.beach(), 1);
            calls += 3;
        }
        for (; calls < 512; calls++) {
            Check.due("call " + (calls + 1), x.hour(), 0);
        }
        DeckChairs y = new DeckChairs();
        for (int i = 1; i <= 512; i++) {
            Check.due("call " + i, y.later(100), 100 * i);
        }
    }

    private static void face() {
        Set<String> want = new TreeSet<>();
        Matcher m = Pattern.compile("public (int|boolean) (\\w+)\\((.*?)\\);").matcher(FACE);
        while (m.find()) {
            want.add(m.group(1) + " " + m.group(2) + "(" + m.group(3).replaceAll("(\\w+) \\w+", "$1") + ")");
        }
        Set<String> got = new TreeSet<>();
        for (Method method : DeckChairs.class.getDeclaredMethods()) {
            if (Modifier.isPublic(method.getModifiers())) {
                List<String> types = new ArrayList<>();
                for (Class<?> type : method.getParameterTypes()) {
                    types.add(type.getSimpleName());
                }
                got.add(method.getReturnType().getSimpleName() + " " + method.getName() + "(" + String.join(", ", types)
                        + ")");
            }
        }
        Twins.same("the face", got.toString(), want.toString());
        Check.due("its constructors", DeckChairs.class.getConstructors().length, 1);
        Check.due("its constants", DeckChairs.class.getFields().length, 1);
        Check.due("NONE", DeckChairs.NONE, -1);
    }

    // ---- lines ----

    private static DeckChairs right(String text, int sitters) {
        DeckChairs x = new DeckChairs();
        Check.due("beach() of " + text, Check.tell(x, text), sitters);
        Check.due("fault(0) of " + text, x.fault(0), 0);
        return x;
    }

    private static void lines() {
        Document.says("A BEACH is a text of at most 1,600 bytes (empty at first): beach = {line}.", () -> {
            Check.due("empty at first", new DeckChairs().about(1), 0);
            right("", 0);
            right("gust 1;", 0);
            right("gust 1;draw 2;chair a stripes 0;\nchair b stripes 0;sitter s purse 0 likes 0;", 1);
            String sitters = "sitter s purse 0 likes 0;sitter t purse 0 likes 0;";
            right(sitters + " ".repeat(1600 - sitters.length()), 2);
            DeckChairs x = new DeckChairs();
            for (int i = 0; i < 80; i++) {
                x.feed(0, 0, 0, 0, 0);
            }
            Check.due("no byte more", x.feed(0, 0, 0, 0, 0), -1);
        });
        Document.says("line = chair NAME stripes N [shut N N N] ;", () -> {
            grammar("chair a stripes 4 ;", 0);
            grammar("chair a stripes 4 shut 1 2 3 ;", 0);
            DeckChairs x = right("chair a stripes 4 shut 1 2 3;", 0);
            Check.due("stripes", x.chair(0, 0), 4);
            Check.due("JOINTS", x.chair(0, 4) * 100 + x.chair(0, 5) * 10 + x.chair(0, 6), 123);
        });
        Document.says("| sitter NAME purse N likes N ;", () -> {
            grammar("sitter a purse 4 likes 5 ;", 1);
            DeckChairs x = right("sitter a purse 4 likes 5;", 1);
            Check.due("purse", x.sitter(0, 1), 4);
            Check.due("likes", x.sitter(0, 0), 5);
        });
        Document.says("| had e ;", () -> {
            grammar("had 7 ;", 0);
            Check.due("what comes of it", right(ONE + "had 7;", 1).had(0, 0), 7);
        });
        Document.says("| gust N ;", () -> {
            grammar("gust 7 ;", 0);
            Check.due("gust", right("gust 7;", 0).about(13), 7);
        });
        Document.says("| draw N ;.", () -> {
            grammar("draw 7 ;", 0);
            Check.due("the SEED", right("draw 7;", 0).about(5), 7);
        });
    }

    /** The line stands as it is; without one of its TOKENS, or with one twice, it does not. */
    private static void grammar(String line, int sitters) {
        right(line, sitters);
        String[] tokens = line.split(" ");
        for (int i = 0; i < tokens.length; i++) {
            List<String> less = new ArrayList<>(List.of(tokens));
            less.remove(i);
            refused(String.join(" ", less));
            List<String> more = new ArrayList<>(List.of(tokens));
            more.add(i, tokens[i]);
            refused(String.join(" ", more));
        }
    }

    private static void refused(String line) {
        DeckChairs x = new DeckChairs();
        Check.due("beach() of " + line, Check.tell(x, line), -1);
        Check.due("fault(0) of " + line, x.fault(0), 2);
    }

    // ---- the formula ----

    private static void value(String formula, int want) {
        Check.due(formula, Check.told(ONE + "had " + formula + ";").had(0, 0), want);
    }

    private static void noFormula(String formula, int place) {
        Check.fault("had " + formula + ";", 2, 4 + place);
    }

    private static void formula() {
        Document.says("e = both {or both}.", () -> {
            value("0 or 3", 1);
            value("0 or 0 or 0 or 2", 1);
            value("0 or 0 or 0", 0);
            noFormula("0 or", 4);
            noFormula("or 0", 0);
            noFormula("1 or or 1", 5);
        });
        Document.says("both = one {and one}.", () -> {
            value("2 and 3", 1);
            value("1 and 1 and 1 and 0", 0);
            // What and joins is one of what or joins.
            value("1 or 1 and 0", 1);
            value("0 and 1 or 1", 1);
            value("0 and (1 or 1)", 0);
            noFormula("1 and", 5);
            noFormula("and 1", 0);
        });
        Document.says("one = not one | sum [(< | > | =) sum].", () -> {
            value("not 3", 0);
            value("not not 3", 1);
            value("not 1 = 2", 1);
            value("not 0 and 0", 0);
            value("1 < 2", 1);
            value("1 > 2", 0);
            value("2 = 2", 1);
            value("1 + 1 = 4 - 2", 1);
            noFormula("1 < 2 < 3", 6);
            noFormula("1 = 2 > 3", 6);
            noFormula("1 < not 2", 4);
            noFormula("not", 3);
            noFormula("< 1", 0);
            noFormula("1 <", 3);
        });
        Document.says("sum = term {(+ | -) term}.", () -> {
            value("1 + 2 + 3 + 4", 10);
            value("9 - 4 - 3", 2);
            value("9 - 4 + 3", 8);
            value("20 - 2 * 3", 14);
            noFormula("+ 1", 0);
            noFormula("- 1", 0);
            noFormula("1 - - 1", 4);
            noFormula("1 + not 1", 4);
        });
        Document.says("term = unit {(* | / | %) unit}.", () -> {
            value("2 * 3 * 4", 24);
            value("40 / 5 / 2", 4);
            value("40 / 5 * 2", 16);
            value("17 % 10 * 2", 14);
            value("3 * 17 % 10", 1);
            noFormula("* 1", 0);
            noFormula("1 / / 1", 4);
            noFormula("1 %", 3);
        });
        Document.says("unit = N | stripes | likes | alone | sat | sand | hour | ( e ).", () -> {
            value("17", 17);
            value("stripes", 3);
            value("likes", 4);
            value("alone", 1);
            DeckChairs x = Check.told(ONE + "chair b stripes 0;had sat * 25 + sand * 5 + hour;");
            x.sit(0, 0);
            x.hour();
            Check.due("sat, sand, hour", x.had(0, 0), 31);
            Check.due("hour alone", x.had(0, 1), 1);
            value("(17)", 17);
            value("2 * (3 + 4)", 14);
            value("(1 or 0) + 6", 7);
            value("((not 0))", 1);
            for (String word : new String[] {"chair", "sitter", "had", "gust", "draw", "shut", "purse", "x", ")", ";"}) {
                noFormula(word, 0);
            }
            noFormula("()", 1);
            noFormula("(1", 2);
            noFormula("1)", 1);
        });
    }

    // ---- TOKENS ----

    private static void tokens() {
        Document.says("TOKENS: words (a .. z, 8 at most), N (1 to 4 digits), signs ; ( ) < > = + - * / %;", () -> {
            right("chair a stripes 0;", 0);
            right("chair z stripes 0;", 0);
            right("chair abcdefgz stripes 0;", 0);
            Check.fault("chair abcdefgzz stripes 0;", 1, 6);
            Check.fault("chair A stripes 0;", 1, 6);
            Check.fault("chair a_b stripes 0;", 1, 7);
            value("0", 0);
            value("0012", 12);
            value("9999 = 9999", 1);
            Check.fault("had 00012;", 1, 4);
            value("((1+2*3-4/2%3<6)=1)>0+0", 1);
            for (char c : new char[] {'!', '"', '#', '$', '&', '\'', ',', '.', ':', '?', '@', '[', ']', '^', '_', '{', '|', '}',
                '~', 0, 9, 11, 12, 13, 31, 127, 128, 160, 255}) {
                Check.fault("gust 1" + c + ";", 1, 6);
            }
        });
        Document.says("blanks (32, 10) part them or not;", () -> {
            right("chair a stripes 0;", 0);
            right("\n\nchair\na stripes\n\n0\n;\n \n", 0);
            right("chair a stripes0;sitter s purse0 likes0;had(1)+(2);gust5;draw6;", 1);
            Check.fault("chaira stripes 0;", 2, 0);
            Check.fault("cha ir a stripes 0;", 2, 0);
        });
        Document.says("each is as long as can be;", () -> {
            Check.due("not 1 and 2", right("draw 12;", 0).about(5), 12);
            Check.fault("draw 1 2;", 2, 7);
            right("chair chairs stripes 0;sitter orb purse 0 likes 0;", 1);
            right("had 1 or1;", 0);
            Check.fault("had 1 orr 1;", 2, 6);
        });
        Document.says("no letter directly behind an N.", () -> {
            Check.fault("had 1or 2;", 1, 4);
            Check.fault("chair a stripes 1shut 0 0 0;", 1, 16);
            right("had 1 or 2;", 0);
            right("had 1\nor 2;", 0);
            right("had (1)or 2;", 0);
        });
        Document.says("Words that stand for themselves here are no NAMES.", () -> {
            for (String word : STANDING) {
                Check.fault("chair " + word + " stripes 0;", 2, 6);
                Check.fault("sitter " + word + " purse 0 likes 0;", 2, 7);
            }
            for (String word : new String[] {"beach", "line", "e", "both", "one", "sum", "term", "unit", "hours", "nor"}) {
                right("chair " + word + " stripes 0;sitter " + word + " purse 0 likes 0;", 1);
            }
        });
    }

    // ---- how many ----

    private static String sum(int units) {
        return "1" + "+1".repeat(units - 1);
    }

    private static void howMany() {
        Document.says("At most 5 CHAIRS (stripes 0 .. 9; three JOINTS 0 .. 3, 0 all if not told; they stand in a row as"
                + " told),", SentencesOfTextTest::chairs);
        Document.says("5 SITTERS (purse 0 .. 99; likes 0 .. 9), numbered as told, each sort by itself;",
                SentencesOfTextTest::sitters);
        Document.says("had, gust (0 .. 100 of 100; 0), draw (0 .. 999; 0) once each;", () -> {
            Check.due("no gust is told", right("", 0).about(13), 0);
            Check.due("gust 100", right("gust 100;", 0).about(13), 100);
            Check.fault("gust 101;", 4, 5);
            Check.due("no draw is told", right("", 0).about(5), 0);
            Check.due("draw 999", right("draw 999;", 0).about(5), 999);
            Check.fault("draw 1000;", 4, 5);
            right("gust 1;draw 1;had 1;", 0);
            Check.fault("gust 1;draw 1;had 1;gust 1;", 2, 20);
            Check.fault("gust 1;draw 1;had 1;draw 1;", 2, 20);
            Check.fault("gust 1;draw 1;had 1;had 1;", 2, 20);
            // Of 100: with 100 each empty CHAIR shuts in each HOUR, with 0 none does.
            Check.due("100 of 100", right("chair a stripes 0;gust 100;draw 44;", 0).standing(1), 0);
            Check.due("99 of 100, the rest being 99", right("chair a stripes 0;gust 99;draw 44;", 0).standing(1), 1);
            Check.due("0 of 100, the rest being 0", right("chair a stripes 0;gust 0;draw 17;", 0).standing(1), 1);
            Check.due("1 of 100, the rest being 0", right("chair a stripes 0;gust 1;draw 17;", 0).standing(1), 0);
        });
        Document.says("60 units in all, 30 in one e (a unit ( e ), or a one behind not, within 6 others at most).", () -> {
            Check.due("30 units", right("had " + sum(30) + ";", 0).about(11), 30);
            Check.fault("had " + sum(31) + ";", 2, 64);
            Check.due("( e ) is one, too", right("had " + sum(20) + "+(" + sum(9) + ");", 0).about(11), 30);
            Check.fault("had " + sum(20) + "+(" + sum(10) + ");", 2, 4 + 40 + 1 + 18);
            right("had " + "(".repeat(7) + "1" + ")".repeat(7) + ";", 0);
            Check.fault("had " + "(".repeat(8) + "1" + ")".repeat(8) + ";", 2, 11);
            right("had " + "not ".repeat(7) + "1;", 0);
            Check.fault("had " + "not ".repeat(8) + "1;", 2, 32);
            right("had " + "(not ".repeat(3) + "(1" + ")".repeat(4) + ";", 0);
            Check.fault("had " + "(not ".repeat(3) + "(not 1" + ")".repeat(4) + ";", 2, 4 + 15 + 1);
        });
    }

    private static void chairs() {
        StringBuilder text = new StringBuilder();
        for (int i = 0; i < 5; i++) {
            text.append("chair ").append((char) ('v' + i)).append(" stripes ").append(9 - 2 * i).append(";");
        }
        DeckChairs x = right(text.toString(), 0);
        Check.due("CHAIRS", x.about(1), 5);
        for (int i = 0; i < 5; i++) {
            Check.due("as told: " + i, x.chair(i, 0), 9 - 2 * i);
            Check.due("JOINTS 0 all", x.chair(i, 4) + x.chair(i, 5) + x.chair(i, 6), 0);
        }
        Check.fault(text + "chair a stripes 0;", 2, text.length());
        right("chair a stripes 0;", 0);
        right("chair a stripes 9;", 0);
        Check.fault("chair a stripes 10;", 4, 16);
        right("chair a stripes 0 shut 0 0 0;chair b stripes 0 shut 3 3 3;", 0);
        Check.fault("chair a stripes 0 shut 4 3 3;", 4, 23);
        Check.fault("chair a stripes 0 shut 3 4 3;", 4, 25);
        Check.fault("chair a stripes 0 shut 3 3 4;", 4, 27);
        // In a row as told: who sits in the second one is next to the first and the third, whatever they are called.
        DeckChairs y = right("chair z stripes 0;chair a stripes 0;chair m stripes 0;chair b stripes 0;"
                + "sitter s purse 9 likes 0;sitter t purse 9 likes 0;had alone;", 2);
        y.sit(0, 1);
        Check.due("next to it or not", y.had(1, 0) * 100 + y.had(1, 2) * 10 + y.had(1, 3), 1);
    }

    private static void sitters() {
        StringBuilder text = new StringBuilder();
        for (int i = 0; i < 5; i++) {
            text.append("sitter ").append((char) ('v' + i)).append(" purse ").append(99 - i).append(" likes ").append(9 - 2 * i);
            text.append(";chair ").append((char) ('v' + i)).append(" stripes ").append(i).append(";");
        }
        DeckChairs x = right(text.toString(), 5);
        Check.due("SITTERS", x.about(0), 5);
        Check.due("CHAIRS", x.about(1), 5);
        for (int i = 0; i < 5; i++) {
            Check.due("purse " + i, x.sitter(i, 1), 99 - i);
            Check.due("likes " + i, x.sitter(i, 0), 9 - 2 * i);
            Check.due("stripes " + i, x.chair(i, 0), i);
        }
        Check.fault(text + "sitter a purse 0 likes 0;", 2, text.length());
        right("sitter a purse 0 likes 0;", 1);
        right("sitter a purse 99 likes 9;", 1);
        Check.fault("sitter a purse 100 likes 9;", 4, 15);
        Check.fault("sitter a purse 99 likes 10;", 4, 24);
    }

    // ---- FAULTS ----

    private static void faults() {
        Document.says("FAULTS, the first by its place (bytes from 0; the end: the text's length), at one place the least:",
                () -> {
                    Check.fault(";", 2, 0);
                    Check.fault(" ;", 2, 1);
                    Check.fault("gust 101;gust 101;", 4, 5);
                    Check.fault("gust 101;#", 4, 5);
                    Check.fault("# gust 101;", 1, 0);
                    Check.fault("gust ;#", 2, 5);
                    Check.fault("chair a stripes 0;chair a stripes 10;", 3, 24);
                    Check.fault("chair a stripes 10;chair a stripes 0;", 4, 16);
                    Check.fault("gust", 2, 4);
                    Check.fault("gust  \n", 2, 7);
                    Check.fault("gust 1", 2, 6);
                    // What is no TOKEN can't stand there either; a number with too many digits can't be, too.
                    Check.fault("gust #;", 1, 5);
                    Check.fault("gust 12345;", 1, 5);
                    Check.fault("gust 101x;", 1, 5);
                });
        Document.says("1 no TOKEN;", () -> {
            Check.fault("?", 1, 0);
            Check.fault("gust 5;\t", 1, 7);
            Check.fault("chair a stripes 5;chair " + (char) 246, 1, 24);
            Check.fault("toolongaword", 1, 0);
        });
        Document.says("2 one that can't stand there (one of a sort too many or a second time: at the line's first word;"
                + " a unit too many, what is within 7 others: at its first TOKEN, or the not);", () -> {
                    Check.fault("gust gust;", 2, 5);
                    Check.fault("gust 5 5;", 2, 7);
                    Check.fault("bench a;", 2, 0);
                    Check.fault("gust 5;\n gust 101;", 2, 9);
                    Check.fault("had 5;had #;", 2, 6);
                    Check.fault("draw 5; draw 5;", 2, 8);
                    String five = "chair a stripes 0;chair b stripes 0;chair c stripes 0;chair d stripes 0;chair e stripes 0;";
                    Check.fault(five + "  chair a stripes 10;", 2, five.length() + 2);
                    Check.fault("had " + sum(30) + " + likes;", 2, 4 + 59 + 3);
                    Check.fault("had " + sum(30) + " + (likes);", 2, 4 + 59 + 3);
                    Check.fault("had " + "( ".repeat(8) + "1", 2, 4 + 14);
                    Check.fault("had " + "( ".repeat(7) + "not 1", 2, 4 + 14);
                    Check.fault("had " + "not ".repeat(7) + "(1)", 2, 4 + 28);
                });
        Document.says("3 a NAME told already (of its sort);", () -> {
            Check.fault("chair ab stripes 0;chair ab stripes 0;", 3, 25);
            Check.fault("chair a stripes 0;chair b stripes 0;chair c stripes 0;chair a stripes 0;", 3, 60);
            Check.fault("sitter s purse 0 likes 0;sitter s purse 0 likes 0;", 3, 32);
            right("chair a stripes 0;sitter a purse 0 likes 0;chair b stripes 0;sitter b purse 0 likes 0;", 2);
            right("chair a stripes 0;chair aa stripes 0;chair ab stripes 0;chair ba stripes 0;chair b stripes 0;", 0);
        });
        Document.says("4 a number that can't be.", () -> {
            Check.fault("chair a stripes 10;", 4, 16);
            Check.fault("chair a stripes 1 shut 1 1 9;", 4, 27);
            Check.fault("sitter a purse 100 likes 1;", 4, 15);
            Check.fault("sitter a purse 10 likes 11;", 4, 24);
            Check.fault("gust 9999;", 4, 5);
            Check.fault("draw 1000;", 4, 5);
        });
    }
}
