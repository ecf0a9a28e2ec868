import java.util.ArrayList;
import java.util.List;

/** Terms 3 of the document, sentence by sentence. */
public final class SentencesOfThoughtTest {
    private static final String CHAIRS = "chair a stripes 0;chair b stripes 1;chair c stripes 2;";
    private static final String SITTERS = "sitter s purse 99 likes 0;sitter t purse 99 likes 1;sitter u purse 99 likes 2;";
    private static final String FIVE_CHAIRS = CHAIRS + "chair d stripes 3;chair e stripes 4;";

    private SentencesOfThoughtTest() {
    }

    public static void main(String[] args) throws Exception {
        thinking();
        seatAndToll();
        opening();
        trade();
        ring();
        envyOutAndRow();
        rivals();
        odds();
        Document.quotedFrom("==== 3.", "==== 4.");
        Check.end("SentencesOfThoughtTest");
    }

    /** What each of three SITTERS has in each of three CHAIRS: a number of three digits each. */
    private static String table(int first, int second, int third) {
        return "had ((likes = 0) * " + first + " + (likes = 1) * " + second + " + (likes = 2) * " + third
                + ") / ((stripes = 0) * 100 + (stripes = 1) * 10 + (stripes = 2)) % 10;";
    }

    private static DeckChairs threeBy(int first, int second, int third) {
        return Check.told(CHAIRS + SITTERS + table(first, second, third));
    }

    private static DeckChairs seatedBy(int first, int second, int third) {
        DeckChairs x = threeBy(first, second, third);
        for (int s = 0; s < 3; s++) {
            x.sit(s, s);
        }
        return x;
    }

    // ---- what holds for all ----

    /** ann and bob SIT, both can pay for two HOURS; a gust would shut each empty CHAIR at once. */
    private static void windy(DeckChairs x) {
        Check.tell(x, CHAIRS + "chair d stripes 0 shut 1 1 1;sitter ann purse 20 likes 4;sitter bob purse 12 likes 2;"
                + "sitter cid purse 9 likes 1;sitter dan purse 9 likes 2;gust 100;draw 5;");
        x.sit(0, 0);
        x.sit(1, 1);
    }

    private static void thinking() {
        Document.says("==== 3. (By what is now; nothing is done; no gusts, if not told otherwise.", () -> {
            Twins.Calls windy = SentencesOfThoughtTest::windy;
            Twins.Call[] looks = {x -> x.will(0, 60), x -> x.standing(60), x -> x.out(1), x -> x.toll(1), x -> x.trade(0),
                x -> x.envy(1), x -> x.row(0, 3), x -> x.best(2, 0), x -> x.noon(0, 0), x -> x.lonely(), x -> x.gap(),
                x -> x.broke(), x -> x.throne(), x -> x.couples(), x -> x.veteran(), x -> x.richest(), x -> x.takings(),
                x -> x.law(9), x -> x.worst(0), x -> x.odds(2, 0), x -> x.had(0, 2)};
            for (int i = 0; i < looks.length; i++) {
                Twins.looks("look " + i, windy, looks[i], true);
            }
            Twins.Call[] laying = {x -> x.seat(), x -> x.opening(3), x -> x.ring(), x -> x.rivals(2, 3)};
            for (int i = 0; i < laying.length; i++) {
                Twins.looks("what lays down " + i, windy, laying[i], false);
            }
            DeckChairs x = Twins.made(windy);
            // By what is now: ann has 9 and bob 6 in each HOUR, she gets up in the third one, he, alone, too (8).
            Check.due("will(0, 60)", x.will(0, 60), 18);
            Check.due("will(1, 60)", x.will(1, 60), 12);
            x.hour();
            Check.due("by what is now", x.will(0, 0) * 100 + x.will(1, 0), 906);
            DeckChairs y = Check.told("chair a stripes 0;sitter s purse 99 likes 0;sitter t purse 99 likes 0;had sat * 10 + sand;");
            y.sit(0, 0);
            y.hour();
            y.rise(0);
            y.sit(1, 0);
            y.hour();
            // 1 SAND, then SAT 1 and 2 SAND, SAT 2 and 3 SAND.
            Check.due("SAT, SAND and what he HAD", y.will(1, 2), 1 + 12 + 23);
            Check.due("and his purse: then 34 of 63, 45 of 29", y.out(1), 4);
            Check.due("who SITS keeps his CHAIR OPEN", x.standing(1), 3);
            Check.due("gusts, as it is told there", x.standing(2), 0);
        });
        Document.says("The hour goes on beyond 999, too.", () -> {
            DeckChairs x = Check.told("chair a stripes 0;sitter s purse 9 likes 0;had hour > 999;");
            for (int i = 0; i < 998; i++) {
                x.hour();
            }
            x.sit(0, 0);
            Check.due("998 and 999 cost nothing", x.will(0, 2), 0);
            Check.due("1000 costs 1", x.will(0, 3), 1);
            Check.due("nine are paid", x.out(0), 12);
        });
        Document.says("In seatings that are thought of sat is how long one SAT, where he SITS in that CHAIR now,", () -> {
            DeckChairs x = Check.told(CHAIRS + SITTERS + "had 1 + sat * 20;");
            x.sit(1, 2);
            x.hour();
            Check.due("21 and 1 and 1", x.seat(), 23);
            Check.lies("where he SITS now", x, 0, 2, 1);
            x.rise(1);
            x.sit(1, 2);
            Check.due("SAT 0", x.seat(), 3);
            Check.lies("all alike", x, 0, 1, 2);
        });
        Document.says("purses do not matter,", () -> {
            DeckChairs x = Check.told("chair a stripes 0;chair b stripes 1;sitter s purse 0 likes 1;sitter t purse 0 likes 2;"
                    + "had (stripes = 0) * likes * 10 + 5;");
            Check.due("seat()", x.seat(), 30);
            Check.due("toll(1)", x.toll(1), 10);
            x.sit(0, 0);
            x.sit(1, 1);
            Check.due("trade(2)", x.trade(2), 30);
            Check.due("envy(1)", x.envy(1), 1);
        });
        Document.says("just the CHAIRS of that seating are taken.)", () -> {
            DeckChairs x = Check.told(CHAIRS + SITTERS + "had 1 + alone * 9;");
            Check.due("two at both ends", x.seat(), 20);
            x.sit(2, 1);
            Check.due("though one SITS between", x.seat(), 20);
            Check.lies("he in none", x, 0, 2, -1);
            // With somebody it would be 10, but there is nobody else.
            DeckChairs y = Check.told(CHAIRS + "sitter s purse 9 likes 0;had 10 - alone * 5;");
            Check.due("nobody else there", y.seat(), 5);
            y = Check.told(CHAIRS + "sitter s purse 9 likes 0;sitter t purse 9 likes 0;had 10 - alone * 5;");
            Check.due("one beside the other one", y.seat(), 20);
            Check.due("without him the other one has 5 less", y.toll(0), -5);
        });
    }

    // ---- SEAT and TOLL ----

    /** Most that some of three could have in three OPEN CHAIRS by a table, tried out one by one. */
    private static int mostBy(int[] rows, int without) {
        int[] tens = {100, 10, 1, 0};
        int most = 0;
        for (int n = 0; n < 64; n++) {
            int[] place = {n / 16, n / 4 % 4, n % 4};
            int sum = 0;
            boolean can = true;
            for (int s = 0; s < 3; s++) {
                can &= s != without || place[s] == 3;
                for (int t = 0; t < s; t++) {
                    can &= place[s] == 3 || place[s] != place[t];
                }
                sum += place[s] == 3 ? 0 : rows[s] / tens[place[s]] % 10;
            }
            most = can ? Math.max(most, sum) : most;
        }
        return most;
    }

    private static void seatAndToll() {
        int[][] tables = {{123, 456, 789}, {987, 654, 321}, {900, 990, 999}, {555, 555, 555}, {192, 837, 465}, {700, 80, 9},
            {909, 919, 191}};
        Document.says("SEAT: all SITTERS in OPEN CHAIRS, one each at most, or in none, so that most is HAD together;", () -> {
            for (int[] t : tables) {
                DeckChairs x = threeBy(t[0], t[1], t[2]);
                Check.due("most by " + t[0] + " " + t[1] + " " + t[2], x.seat(), mostBy(t, -1));
                int sum = 0;
                int taken = 0;
                for (int s = 0; s < 3; s++) {
                    int c = x.lies(s);
                    Check.due("one each", taken >> c & 1, 0);
                    taken |= 1 << c;
                    sum += x.had(s, c);
                }
                Check.due("together", sum, x.seat());
            }
            DeckChairs y = threeBy(123, 456, 789);
            y.move(2, 0);
            Check.due("4 and 5, or 7 and 5, or 8 and 4 without the last CHAIR", y.seat(), 12);
            Check.lies("one in none", y, -1, 0, 1);
            Check.due("alone is better", Check.told("chair a stripes 0;chair b stripes 0;sitter s purse 0 likes 0;"
                    + "sitter t purse 0 likes 0;had 2 + alone * 3;").seat(), 5);
        });
        Document.says("of like ones the first (SITTER by SITTER: the least CHAIR, none behind all).", () -> {
            DeckChairs x = threeBy(555, 555, 555);
            x.seat();
            Check.lies("all alike", x, 0, 1, 2);
            x = threeBy(0, 0, 0);
            x.seat();
            Check.lies("none behind all", x, 0, 1, 2);
            // 7 by the second and the third one; the first one has nothing anywhere, and takes the least that is left.
            x = threeBy(0, 700, 70);
            Check.due("7 and 7", x.seat(), 14);
            Check.lies("the least that is left", x, 2, 0, 1);
            x = threeBy(77, 770, 0);
            Check.due("7 and 7", x.seat(), 14);
            Check.lies("the first one in 1, not in 2", x, 1, 0, 2);
            x = Check.told("chair a stripes 0;sitter s purse 0 likes 1;sitter t purse 0 likes 1;sitter u purse 0 likes 1;");
            x.seat();
            Check.lies("the first one sits", x, 0, -1, -1);
        });
        Document.says("TOLL of a SITTER: by how much more all others could have together (seated anew), were he not there,"
                + " than they have in the SEAT.", () -> {
                    for (int[] t : tables) {
                        DeckChairs x = threeBy(t[0], t[1], t[2]);
                        int most = x.seat();
                        for (int s = 0; s < 3; s++) {
                            int his = x.had(s, x.lies(s));
                            Check.due("toll(" + s + ") by " + t[0] + " " + t[1] + " " + t[2], x.toll(s), mostBy(t, s) - (most - his));
                        }
                    }
                    DeckChairs y = threeBy(900, 500, 300);
                    // The first one has 9, others 0; without him the second one would have 5.
                    Check.due("toll(0)", y.toll(0), 5);
                    Check.due("toll(1)", y.toll(1), 0);
                    // Beside one another each has 5 and his liking, alone 2 more; the last of three CHAIRS is shut.
                    y = Check.told(CHAIRS + "sitter s purse 0 likes 3;sitter t purse 0 likes 8;had 5 + alone * 2 + likes;");
                    y.move(2, 0);
                    Check.due("8 and 13", y.seat(), 21);
                    Check.due("toll(0): he would have 15 for 13", y.toll(0), 2);
                    Check.due("toll(1): he would have 10 for 8", y.toll(1), 2);
                    y.move(0, 0);
                    Check.due("alone in the second one", y.seat(), 15);
                    Check.lies("alone in the second one", y, -1, 1);
                    Check.due("toll(0): he keeps nobody out", y.toll(0), 0);
                    Check.due("toll(1): the other one would have 10", y.toll(1), 10);
                    y = threeBy(950, 900, 0);
                    // 5 and 9; without the second one the first one would have 9 for his 5.
                    Check.due("toll(1) of who turns him out", y.toll(1), 4);
                    Check.due("toll(0)", y.toll(0), 0);
                });
    }

    // ---- OPENING ----

    private static int moved(int n, int move) {
        int[] first = {1, 0, 3, 1};
        int[] second = {1, 3, 0, 1};
        int[] third = {0, 1, 2, 1};
        return (n / 16 + first[move]) % 4 * 16 + (n / 4 % 4 + second[move]) % 4 * 4 + (n % 4 + third[move]) % 4;
    }

    /** The first of all rows of so many MOVES that open, by numbers; null if there is none. */
    private static List<Integer> firstRow(int joints, int moves) {
        if (moves == 0) {
            return joints == 0 ? new ArrayList<>() : null;
        }
        for (int move = 0; move < 4; move++) {
            List<Integer> rest = firstRow(moved(joints, move), moves - 1);
            if (rest != null) {
                rest.add(0, move);
                return rest;
            }
        }
        return null;
    }

    private static void opening() {
        Document.says("OPENING of a CHAIR: the fewest MOVES by which it is OPEN;", () -> {
            for (int n = 0; n < 64; n++) {
                DeckChairs x = Check.told("chair a stripes 0 shut " + n / 16 + " " + n / 4 % 4 + " " + n % 4 + ";");
                int moves = x.opening(0);
                Check.due(moves + " MOVES open " + n, firstRow(n, moves) != null, true);
                for (int fewer = 0; fewer < moves; fewer++) {
                    Check.due(fewer + " MOVES open " + n, firstRow(n, fewer) != null, false);
                }
            }
        });
        Document.says("of like rows the first (by numbers).", () -> {
            for (int n = 0; n < 64; n++) {
                DeckChairs x = Check.told("chair a stripes 0 shut " + n / 16 + " " + n / 4 % 4 + " " + n % 4 + ";");
                int moves = x.opening(0);
                List<Integer> row = firstRow(n, moves);
                for (int i = 0; i < moves; i++) {
                    Check.due("MOVE " + i + " of " + n, x.lies(i), row.get(i));
                }
            }
        });
    }

    // ---- TRADE ----

    private static void trade(String what, DeckChairs x, int first, int other, int much) {
        Check.due(what + ": the first one", x.trade(0), first);
        Check.due(what + ": the other one", x.trade(1), other);
        Check.due(what + ": how much", x.trade(2), much);
    }

    private static void trade() {
        Document.says("TRADE: the two who SIT by whose change of CHAIRS (as the ACT has it) most is HAD by all who SIT, if that"
                + " is more than now;", () -> {
                    // Now 1 and 5 and 9. By 0 and 1: 2, 4, 9; by 0 and 2: 3, 5, 7; by 1 and 2: 1, 6, 8.
                    trade("as much is not more", seatedBy(123, 456, 789), -1, -1, -1);
                    trade("more by 0 and 2", seatedBy(124, 456, 789), 0, 2, 16);
                    trade("most by 1 and 2", seatedBy(124, 458, 789), 1, 2, 17);
                    trade("most by 0 and 1", seatedBy(194, 858, 789), 0, 1, 26);
                    DeckChairs x = Check.told(CHAIRS + SITTERS + "had (stripes = likes) + 1;");
                    x.sit(0, 1);
                    trade("one alone", x, -1, -1, -1);
                    x.sit(1, 0);
                    trade("two who SIT", x, 0, 1, 4);
                    x.sit(2, 2);
                    trade("all who SIT count", x, 0, 1, 6);
                    // SAT 0 then: an hour's 3 each are lost, and 9 won by each.
                    DeckChairs y = Check.told("chair a stripes 0;chair b stripes 1;sitter s purse 99 likes 0;sitter t purse 99 likes 1;"
                            + "had (not stripes = likes) * 9 + sat * 3;");
                    y.sit(0, 0);
                    y.sit(1, 1);
                    trade("at first", y, 0, 1, 18);
                    y.hour();
                    trade("6 are lost", y, 0, 1, 18);
                    y.hour();
                    y.hour();
                    trade("18 are lost", y, -1, -1, -1);
                    // Who SITS where he sat before SAT 0 by no change: two are two.
                    DeckChairs z = Check.told("chair a stripes 0;chair b stripes 1;sitter s purse 99 likes 0;sitter t purse 99 likes 1;"
                            + "had 20 - sat * 5;");
                    z.sit(0, 0);
                    z.hour();
                    z.hour();
                    trade("not with himself", z, -1, -1, -1);
                    z.sit(1, 1);
                    z.hour();
                    trade("with another one", z, 0, 1, 40);
                    // Who does not change keeps his SAT.
                    DeckChairs w = Check.told(CHAIRS + SITTERS + "had (not stripes = likes) * 30 + sat * 5;");
                    w.sit(2, 2);
                    w.hour();
                    w.sit(0, 0);
                    w.sit(1, 1);
                    trade("his 5 count", w, 0, 1, 65);
                });
        Document.says("of like ones the first (the lesser number, then the other one).", () -> {
            trade("all three alike", seatedBy(122, 212, 221), 0, 1, 5);
            trade("0 and 2, 1 and 2 alike", seatedBy(112, 112, 221), 0, 2, 5);
            trade("0 and 1, 0 and 2 alike", seatedBy(122, 211, 211), 0, 1, 5);
        });
    }

    // ---- RING ----

    private static void ring(String what, DeckChairs x, int changes, int... places) {
        Check.due(what, x.ring(), changes);
        Check.lies(what, x, places);
    }

    private static void ring() {
        Document.says("RING: the CHAIRS of those who SIT dealt anew among them so that each who has another CHAIR than now"
                + " would have more in it (SAT 0) than now in his, the most who change;", () -> {
                    ring("all three round", seatedBy(120, 12, 201), 3, 1, 2, 0);
                    ring("two of them", seatedBy(120, 210, 1), 2, 1, 0, 2);
                    ring("as much is not more", seatedBy(110, 110, 1), 0, 0, 1, 2);
                    ring("one would have less", seatedBy(190, 20, 1), 0, 0, 1, 2);
                    // Two who win much are fewer than three who win little.
                    ring("the most who change", seatedBy(129, 12, 291), 3, 1, 2, 0);
                    DeckChairs x = Check.told(FIVE_CHAIRS + SITTERS + "had (stripes + 3 - likes) % 3 = 1;");
                    x.sit(0, 0);
                    x.sit(1, 1);
                    ring("nobody SITS in the CHAIR he would like", x, 0, 0, 1, -1);
                    x.sit(2, 2);
                    ring("all three who SIT", x, 3, 1, 2, 0);
                    DeckChairs y = Check.told("chair a stripes 0;chair b stripes 1;sitter s purse 99 likes 0;sitter t purse 99 likes 1;"
                            + "had (not stripes = likes) * 3 + sat * 3;");
                    y.sit(0, 0);
                    y.sit(1, 1);
                    ring("3 for nothing", y, 2, 1, 0);
                    y.hour();
                    ring("3 for 3, SAT being 0 then", y, 0, 0, 1);
                });
        Document.says("of like ones that by which most is HAD by all who SIT;", () -> {
            // Both ways round all three are gladder: by 1, 2, 0 with 2 and 2 and 2, by 2, 0, 1 with 3 and 2 and 2.
            ring("all three, more of it", seatedBy(123, 212, 221), 3, 2, 0, 1);
            ring("all three, the other way", seatedBy(132, 212, 221), 3, 1, 2, 0);
            // Who stays counts, too: 0 and 1, or 1 and 2 may change.
            ring("two of them, by who stays", seatedBy(120, 212, 25), 2, 1, 0, 2);
            ring("two of them, by who stays", seatedBy(520, 212, 21), 2, 0, 2, 1);
        });
        Document.says("of like ones the first (SITTER by SITTER: the least CHAIR).", () -> {
            ring("both ways alike", seatedBy(122, 212, 221), 3, 1, 2, 0);
            ring("0 and 1, 0 and 2, 1 and 2 alike", seatedBy(120, 212, 21), 2, 0, 2, 1);
        });
    }

    // ---- ENVY, OUT, ROW ----

    private static void envyOutAndRow() {
        Document.says("ENVY of a SITTER who SITS: the OPEN CHAIRS in which he would have more than now (all others as they SIT;"
                + " of a taken one, whose SITTER gets up then).", () -> {
                    DeckChairs x = seatedBy(123, 456, 789);
                    Check.due("more in both", x.envy(0), 6);
                    Check.due("more in the last one", x.envy(1), 4);
                    Check.due("as the last one has most", x.envy(2), 0);
                    x.rise(2);
                    Check.due("a free one, too", x.envy(0), 6);
                    x.move(2, 1);
                    Check.due("not a shut one", x.envy(0), 2);
                    // His own CHAIR is left: he would be alone in a; in d he would be next to who SITS in c.
                    DeckChairs y = Check.told(FIVE_CHAIRS + SITTERS + "had alone;");
                    y.sit(0, 1);
                    y.sit(1, 2);
                    Check.due("in a, in c, whose SITTER gets up, in e", y.envy(0), 1 + 4 + 16);
                    Check.due("in b, whose SITTER gets up, in d, in e", y.envy(1), 2 + 8 + 16);
                });
        Document.says("OUT of a SITTER: behind how many HOURS he SITS in none first.", () -> {
            DeckChairs x = Check.told(CHAIRS + SITTERS + "had 10 + likes * 23;");
            Check.due("he SITS in none", x.out(0), 0);
            x.sit(0, 0);
            x.sit(1, 1);
            x.sit(2, 2);
            Check.due("nine times 10 of 99", x.out(0), 10);
            Check.due("three times 33 of 99", x.out(1), 4);
            Check.due("once 56 of 99", x.out(2), 2);
        });
        Document.says("ROW from a CHAIR to another one: how many that are OPEN and free stand between both.", () -> {
            DeckChairs x = Check.told(FIVE_CHAIRS + SITTERS);
            for (int a = 0; a < 5; a++) {
                for (int b = 0; b < 5; b++) {
                    Check.due("from " + a + " to " + b, x.row(a, b), Math.max(0, Math.abs(a - b) - 1));
                }
            }
            x.sit(0, 1);
            x.move(3, 0);
            Check.due("one taken, one shut", x.row(0, 4) * 10 + x.row(4, 0), 11);
            Check.due("just the shut one", x.row(2, 4), 0);
            x.sit(1, 0);
            Check.due("the ends do not matter", x.row(0, 4), 1);
        });
    }

    // ---- RIVALS ----

    private static void rivals(String what, DeckChairs x, int rests, int... chairs) {
        Check.due(what, x.rivals(0, 1), rests);
        Check.lies(what, x, chairs);
    }

    private static void rivals() {
        Document.says("RIVALS of two SITTERS who SIT in none: each makes for an OPEN CHAIR that is free; if both for one,"
                + " neither has it (0), else each would have what is HAD there, both being taken;", () -> {
                    // In the only CHAIR both have nothing, and there is no other one.
                    rivals("one CHAIR", Check.told("chair a stripes 0;" + SITTERS), 1, 0, 0);
                    // 9 and 5 for each: the one in the one, the other one in the other one, or the other way round.
                    rivals("two CHAIRS", Check.told("chair a stripes 0;chair b stripes 4;" + SITTERS + "had 9 - stripes;"), 2, 0, 1);
                    DeckChairs x = Check.told(CHAIRS + SITTERS + "had 9 - stripes;");
                    x.sit(2, 0);
                    rivals("a taken one is not free", x, 2, 1, 2);
                    x.rise(2);
                    x.move(1, 0);
                    rivals("a shut one is none", x, 2, 0, 2);
                    // Both being taken: next to one another each has 1, with a CHAIR between them 4.
                    rivals("both being taken", Check.told(CHAIRS + SITTERS + "had 1 + alone * 3;"), 2, 0, 2);
                    DeckChairs y = Check.told(FIVE_CHAIRS + SITTERS + "had 1 + alone * 3;");
                    y.sit(2, 0);
                    // Next to who SITS, in b, one is never alone: b with d (all else beside d is 1, too), c with e.
                    rivals("who SITS takes his CHAIR, too", y, 4, 1, 3);
                });
        Document.says("at RESTS neither, the other one's going so, would have more in another one.", () -> {
            // By tables of two: each pair of CHAIRS tried out.
            int[][] tables = {{123, 321}, {111, 111}, {900, 900}, {901, 910}, {123, 456}, {990, 990}, {10, 20}, {0, 0}, {500, 501}};
            int[] tens = {100, 10, 1};
            for (int[] t : tables) {
                int rests = 0;
                List<Integer> first = new ArrayList<>();
                for (int n = 0; n < 9; n++) {
                    int a = n / 3;
                    int b = n % 3;
                    int his = a == b ? 0 : t[0] / tens[a] % 10;
                    int others = a == b ? 0 : t[1] / tens[b] % 10;
                    boolean rest = true;
                    for (int c = 0; c < 3; c++) {
                        rest &= c == b || t[0] / tens[c] % 10 <= his;
                        rest &= c == a || t[1] / tens[c] % 10 <= others;
                    }
                    rests += rest ? 1 : 0;
                    if (rest && rests == 1) {
                        first.add(a);
                        first.add(b);
                    }
                }
                DeckChairs x = threeBy(t[0], t[1], 0);
                Check.due("RESTS by " + t[0] + " " + t[1], x.rivals(0, 1), rests);
                Check.due("how many lie there", x.about(12), first.size());
                for (int i = 0; i < first.size(); i++) {
                    Check.due("the first one's " + i, x.lies(i), first.get(i));
                }
            }
        });
    }

    // ---- ODDS ----

    private static void odds() {
        Document.says("ODDS: that a CHAIR does not shut in n HOURS, whatever the SEED is.", () -> {
            for (int gust = 0; gust <= 100; gust++) {
                for (int draw : new int[] {0, 500, 999}) {
                    DeckChairs x = Check.told("gust " + gust + ";draw " + draw + ";");
                    long up = 1;
                    long low = 1;
                    for (int n = 0; n <= 4; n++) {
                        // The same odds in other terms.
                        Check.due("gust " + gust + ", " + n, x.odds(n, 0) * low, x.odds(n, 1) * up);
                        Check.due("they are odds", x.odds(n, 0) <= x.odds(n, 1), true);
                        up *= 100 - gust;
                        low *= 100;
                    }
                }
            }
            // Of all SEEDS there may be just so many leave a CHAIR OPEN in an HOUR.
            for (int gust : new int[] {0, 1, 30, 99, 100}) {
                int open = 0;
                for (int draw = 0; draw < 1000; draw++) {
                    open += Check.told("chair a stripes 0;gust " + gust + ";draw " + draw + ";").standing(1);
                }
                DeckChairs x = Check.told("gust " + gust + ";");
                Check.due("of 1,000 SEEDS, gust " + gust, open * x.odds(1, 1), 1000 * x.odds(1, 0));
            }
        });
    }
}
