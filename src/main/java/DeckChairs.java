/**
 * Deckchairs let by the afternoon one is having. The document ../shared/DOC.md tells, promise by
 * promise, what each call answers; the words in its capitals (BEACH, CHAIR, SITTER ..) are used here.
 */
public final class DeckChairs {
    public static final int NONE = -1;

    private static final int NO_SUCH = -2;
    private static final int MOST = 5;
    private static final int TAPE_MOST = 1600;
    private static final int FED = 20;
    private static final int BOXES = 3;
    private static final int HOURS_MOST = 999;
    private static final int THOUGHT_MOST = 60;
    private static final int OUT_MOST = 99;
    private static final int NOON_MOST = 99;
    private static final int SAND_MOST = 99;
    private static final int HAD_MOST = 99;
    private static final int HAD_EVER_MOST = 9999;
    private static final int PURSE_MOST = 999;
    private static final int FILL_MOST = 99;
    private static final int ODDS_MOST = 4;
    private static final int LYING_MOST = 64;

    private final byte[] tape;
    private int taped;
    private final Parser parser;
    private Told told;
    private Told spare;
    private final Scene now;
    private final Scene thought;
    private final Past past;
    private final Shelf boxes;
    private final boolean[] boxFull;
    private final Hinge hinge;
    private final Seater seater;
    private final Duel duel;
    private final Guesses guesses;
    private final int[] lying;
    private int lyingCount;

    public DeckChairs() {
        tape = new byte[TAPE_MOST];
        taped = 0;
        parser = new Parser();
        told = new Told();
        spare = new Told();
        now = new Scene(told);
        thought = new Scene(told);
        past = new Past();
        boxes = new Shelf(BOXES);
        boxFull = new boolean[BOXES];
        hinge = new Hinge();
        seater = new Seater();
        duel = new Duel();
        guesses = new Guesses();
        lying = new int[LYING_MOST];
        lyingCount = 0;
        beginAnew();
    }

    // ---- the TAPE and the BEACH ----

    public int feed(int a, int b, int c, int d, int e) {
        if (taped > TAPE_MOST - FED) {
            return NONE;
        }
        putOnTape(a);
        putOnTape(b);
        putOnTape(c);
        putOnTape(d);
        putOnTape(e);
        return taped;
    }

    public int end(int n) {
        if (n < 0 || n > taped) {
            return NONE;
        }
        taped = n;
        return n;
    }

    public int beach() {
        if (!parser.parse(tape, taped, spare)) {
            return NONE;
        }
        Told before = told;
        told = spare;
        spare = before;
        taped = 0;
        beginAnew();
        return told.sitters;
    }

    public int fault(int what) {
        if (what == 0) {
            return parser.fault;
        }
        return what == 1 ? parser.faultPlace : NONE;
    }

    // ---- what is so now ----

    public int chair(int chair, int what) {
        if (!isChair(chair)) {
            return NO_SUCH;
        }
        switch (what) {
            case 0:
                return told.stripes[chair];
            case 1:
                return now.sand[chair];
            case 2:
                return now.whoSits(chair);
            case 3:
                return now.isOpen(chair) ? 1 : 0;
            case 4:
            case 5:
            case 6:
                return Hinge.joint(now.joints[chair], what - 4);
            default:
                return NO_SUCH;
        }
    }

    public int sitter(int sitter, int what) {
        if (!isSitter(sitter)) {
            return NO_SUCH;
        }
        switch (what) {
            case 0:
                return told.likes[sitter];
            case 1:
                return now.purse[sitter];
            case 2:
                return now.place[sitter];
            case 3:
                return now.sat[sitter];
            case 4:
                return now.hadEver[sitter];
            default:
                return NO_SUCH;
        }
    }

    public int had(int sitter, int chair) {
        if (!isSitter(sitter) || !isChair(chair)) {
            return NONE;
        }
        return now.worthFor(sitter, chair);
    }

    // ---- ACTS ----

    public int hour() {
        if (now.hours >= HOURS_MOST) {
            return NONE;
        }
        int paid = now.passHour(true);
        past.keep(now);
        return paid;
    }

    public int sit(int sitter, int chair) {
        if (!isSitter(sitter) || !isChair(chair) || now.sits(sitter) || !now.isFree(chair)) {
            return NONE;
        }
        now.sitDown(sitter, chair);
        past.keep(now);
        return now.worthFor(sitter, chair);
    }

    public int rise(int sitter) {
        if (!isSitter(sitter) || !now.sits(sitter)) {
            return NONE;
        }
        int chair = now.place[sitter];
        now.getUp(sitter);
        past.keep(now);
        return chair;
    }

    public int change(int sitter, int other) {
        if (!isSitter(sitter) || !isSitter(other) || sitter == other) {
            return NONE;
        }
        if (!now.sits(sitter) || !now.sits(other)) {
            return NONE;
        }
        int chair = now.place[sitter];
        now.sitDown(sitter, now.place[other]);
        now.sitDown(other, chair);
        past.keep(now);
        return now.worthOfAll();
    }

    public int move(int chair, int move) {
        if (!isChair(chair) || move < 0 || move >= Hinge.MOVES || now.whoSits(chair) != NONE) {
            return NONE;
        }
        now.joints[chair] = Hinge.after(now.joints[chair], move);
        past.keep(now);
        return now.joints[chair];
    }

    public int fill(int sitter, int more) {
        if (!isSitter(sitter) || more < 1 || more > FILL_MOST || now.purse[sitter] >= PURSE_MOST) {
            return NONE;
        }
        now.purse[sitter] = Math.min(PURSE_MOST, now.purse[sitter] + more);
        past.keep(now);
        return now.purse[sitter];
    }

    public boolean undo() {
        return past.stepBack(now);
    }

    public boolean redo() {
        return past.stepOn(now);
    }

    // ---- HOURS that are thought of ----

    public int will(int sitter, int n) {
        if (!isSitter(sitter) || n < 0 || n > THOUGHT_MOST) {
            return NONE;
        }
        thinkOn(n, false);
        return thought.hadEver[sitter];
    }

    public int standing(int n) {
        if (n < 0 || n > THOUGHT_MOST) {
            return NONE;
        }
        thinkOn(n, true);
        return thought.openOnes();
    }

    public int out(int sitter) {
        if (!isSitter(sitter)) {
            return NONE;
        }
        thought.copyFrom(now);
        for (int n = 0; n <= OUT_MOST; n++) {
            if (!thought.sits(sitter)) {
                return n;
            }
            thought.passHour(false);
        }
        return NONE;
    }

    // ---- seatings that are thought of ----

    public int seat() {
        int most = seater.seatAllBut(now, NONE);
        layFound();
        return most;
    }

    public int toll(int sitter) {
        if (!isSitter(sitter)) {
            return NONE;
        }
        int others = seater.seatAllBut(now, NONE) - seater.partOf(sitter);
        return seater.seatAllBut(now, sitter) - others;
    }

    public int opening(int chair) {
        lyingCount = 0;
        if (!isChair(chair)) {
            return NONE;
        }
        int joints = now.joints[chair];
        int moves = hinge.movesFrom(joints);
        for (int i = 0; i < moves; i++) {
            int move = hinge.firstMoveFrom(joints);
            lay(move);
            joints = Hinge.after(joints, move);
        }
        return moves;
    }

    public int trade(int what) {
        if (what < 0 || what > 2) {
            return NONE;
        }
        int most = now.worthOfAll();
        int first = NONE;
        int second = NONE;
        for (int i = 0; i < told.sitters; i++) {
            for (int j = i + 1; j < told.sitters; j++) {
                int sum = worthIfChanged(i, j);
                if (sum > most) {
                    most = sum;
                    first = i;
                    second = j;
                }
            }
        }
        if (first == NONE || what == 0) {
            return first;
        }
        return what == 1 ? second : most;
    }

    public int ring() {
        int changes = seater.dealAnew(now);
        layFound();
        return changes;
    }

    public int envy(int sitter) {
        if (!isSitter(sitter) || !now.sits(sitter)) {
            return NONE;
        }
        int own = now.worthFor(sitter, now.place[sitter]);
        int bits = 0;
        for (int c = 0; c < told.chairs; c++) {
            if (now.isOpen(c) && now.worthFor(sitter, c) > own) {
                bits |= 1 << c;
            }
        }
        return bits;
    }

    public int row(int chair, int other) {
        if (!isChair(chair) || !isChair(other)) {
            return NONE;
        }
        int last = Math.max(chair, other);
        int count = 0;
        for (int c = Math.min(chair, other) + 1; c < last; c++) {
            if (now.isFree(c)) {
                count++;
            }
        }
        return count;
    }

    public int rivals(int sitter, int other) {
        lyingCount = 0;
        if (!isSitter(sitter) || !isSitter(other) || sitter == other) {
            return NONE;
        }
        if (now.sits(sitter) || now.sits(other) || now.freeOnes() == 0) {
            return NONE;
        }
        int rests = duel.countRests(now, sitter, other);
        if (rests > 0) {
            lay(duel.firstChair);
            lay(duel.otherChair);
        }
        return rests;
    }

    public int best(int sitter, int what) {
        if (!isSitter(sitter) || what < 0 || what > 1) {
            return NONE;
        }
        int best = NONE;
        int most = NONE;
        for (int c = 0; c < told.chairs; c++) {
            if (now.isFree(c)) {
                int worth = now.worthFor(sitter, c);
                if (worth > most) {
                    most = worth;
                    best = c;
                }
            }
        }
        return what == 0 ? best : most;
    }

    public int noon(int sitter, int chair) {
        if (!isSitter(sitter) || !isChair(chair)) {
            return NONE;
        }
        int others = now.takenByOthers(sitter);
        int best = 0;
        int most = NONE;
        for (int h = 0; h <= NOON_MOST; h++) {
            int worth = now.worthAt(sitter, chair, others, now.sand[chair], h);
            if (worth > most) {
                most = worth;
                best = h;
            }
        }
        return best;
    }

    // ---- looks at the row ----

    public int lonely() {
        int taken = now.taken();
        int bits = 0;
        for (int s = 0; s < told.sitters; s++) {
            if (now.sits(s) && Scene.standsAlone(now.place[s], taken)) {
                bits |= 1 << s;
            }
        }
        return bits;
    }

    public int gap() {
        int longest = 0;
        int run = 0;
        for (int c = 0; c < told.chairs; c++) {
            run = now.isFree(c) ? run + 1 : 0;
            longest = Math.max(longest, run);
        }
        return longest;
    }

    public int broke() {
        int bits = 0;
        for (int s = 0; s < told.sitters; s++) {
            if (now.sits(s) && now.purse[s] < now.worthFor(s, now.place[s])) {
                bits |= 1 << s;
            }
        }
        return bits;
    }

    public int throne() {
        return firstGreatest(now.sand, told.chairs);
    }

    public int couples() {
        int taken = now.taken();
        return Integer.bitCount(taken & (taken >> 1));
    }

    public int veteran() {
        int best = NONE;
        for (int s = 0; s < told.sitters; s++) {
            if (now.sits(s) && (best == NONE || now.sat[s] > now.sat[best])) {
                best = s;
            }
        }
        return best;
    }

    public int richest() {
        return firstGreatest(now.purse, told.sitters);
    }

    public int takings() {
        int sum = 0;
        for (int s = 0; s < told.sitters; s++) {
            sum += now.hadEver[s];
        }
        return sum;
    }

    public int law(int sand) {
        if (sand < 0 || sand > SAND_MOST) {
            return NONE;
        }
        int taken = now.taken();
        int sum = 0;
        for (int s = 0; s < told.sitters; s++) {
            if (now.sits(s)) {
                sum += now.worthAt(s, now.place[s], taken, sand, now.hours);
            }
        }
        return sum;
    }

    public int worst(int what) {
        if (what == 0) {
            return hinge.farthest;
        }
        return what == 1 ? hinge.movesFrom(hinge.farthest) : NONE;
    }

    public int odds(int n, int part) {
        if (n < 0 || n > ODDS_MOST || part < 0 || part > 1) {
            return NONE;
        }
        int upper = 1;
        int lower = 1;
        for (int i = 0; i < n; i++) {
            upper *= 100 - told.gust;
            lower *= 100;
        }
        int common = commonDivisor(upper, lower);
        int whole = part == 0 ? upper : lower;
        return common > 0 ? whole / common : whole;
    }

    public int lies(int i) {
        return i >= 0 && i < lyingCount && i < lying.length ? lying[i] : NO_SUCH;
    }

    // ---- what the last one likes ----

    public int seen(int chair, int much, boolean is) {
        if (told.sitters == 0 || !isChair(chair) || much < 0 || much > HAD_MOST) {
            return NONE;
        }
        return guesses.tell(chair, much, is);
    }

    public boolean untell(int seen) {
        return guesses.takeBack(seen);
    }

    public int later(int by) {
        return guesses.goOn(by);
    }

    public int fits(int k) {
        return Integer.bitCount(guesses.fitting(k));
    }

    public int sure(int what, int k) {
        int fitting = guesses.fitting(k);
        if (fitting == 0 || what < 0 || what > 1) {
            return NONE;
        }
        return what == 0 ? Guesses.least(fitting) : Guesses.greatest(fitting);
    }

    public int ask(int what, int k) {
        int fitting = guesses.fitting(k);
        if (fitting == 0 || what < 0 || what > 1) {
            return NONE;
        }
        int best = NONE;
        int fewest = NONE;
        for (int c = 0; c < told.chairs; c++) {
            int left = guesses.leftAtMost(c, fitting);
            if (best == NONE || left < fewest) {
                best = c;
                fewest = left;
            }
        }
        return what == 0 ? best : fewest;
    }

    // ---- images, and the rest ----

    public int image(int box) {
        if (box < 0 || box >= BOXES) {
            return NONE;
        }
        boxes.put(box, now);
        boxFull[box] = true;
        return now.hours;
    }

    public int back(int box) {
        if (box < 0 || box >= BOXES || !boxFull[box]) {
            return NONE;
        }
        boxes.take(box, now);
        past.begin(now);
        return now.hours;
    }

    public int about(int what) {
        switch (what) {
            case 0:
                return told.sitters;
            case 1:
                return told.chairs;
            case 2:
                return now.openOnes();
            case 3:
                return now.taken();
            case 4:
                return now.hours;
            case 5:
                return now.seed;
            case 6:
                return past.behind;
            case 7:
                return past.ahead;
            case 8:
                return guesses.count;
            case 9:
                return guesses.time;
            case 10:
                return taped;
            case 11:
                return told.formula.units;
            case 12:
                return lyingCount;
            case 13:
                return told.gust;
            default:
                return NONE;
        }
    }

    // ---- helpers of the face ----

    private void beginAnew() {
        now.begin(told);
        past.begin(now);
        guesses.begin(told);
        lyingCount = 0;
        for (int i = 0; i < boxFull.length; i++) {
            boxFull[i] = false;
        }
    }

    private void putOnTape(int four) {
        for (int shift = 24; shift >= 0 && taped < tape.length; shift -= 8) {
            tape[taped] = (byte) (four >> shift);
            taped++;
        }
    }

    private boolean isChair(int chair) {
        return chair >= 0 && chair < told.chairs && chair < MOST;
    }

    private boolean isSitter(int sitter) {
        return sitter >= 0 && sitter < told.sitters && sitter < MOST;
    }

    private void lay(int number) {
        if (lyingCount < lying.length) {
            lying[lyingCount] = number;
            lyingCount++;
        }
    }

    private void layFound() {
        lyingCount = 0;
        for (int s = 0; s < told.sitters; s++) {
            lay(seater.found[s]);
        }
    }

    private void thinkOn(int n, boolean gusts) {
        thought.copyFrom(now);
        for (int i = 0; i < n; i++) {
            thought.passHour(gusts);
        }
    }

    /** What all who SIT would have if two changed; NONE if one of the two SITS in none. */
    private int worthIfChanged(int sitter, int other) {
        if (!now.sits(sitter) || !now.sits(other)) {
            return NONE;
        }
        thought.copyFrom(now);
        thought.sitDown(sitter, now.place[other]);
        thought.sitDown(other, now.place[sitter]);
        return thought.worthOfAll();
    }

    private static int firstGreatest(int[] numbers, int count) {
        int best = NONE;
        for (int i = 0; i < count && i < numbers.length; i++) {
            if (best == NONE || numbers[i] > numbers[best]) {
                best = i;
            }
        }
        return best;
    }

    private static int commonDivisor(int a, int b) {
        int greater = a;
        int lesser = b;
        // Euclid's steps over two ints are fewer than 64.
        for (int i = 0; i < 64 && lesser != 0; i++) {
            int rest = greater % lesser;
            greater = lesser;
            lesser = rest;
        }
        return greater;
    }

    /** How much is had in an hour: the whole formula, held as a row of steps over a stack. */
    private static final class Formula {
        static final int NUMBER = 1;
        static final int NAMED = 2;
        static final int NOT = 3;
        static final int AND = 4;
        static final int OR = 5;
        private static final int NAMES = 6;
        // 30 units, fewer signs between them, and 7 nots at most before each of 30 ones.
        private static final int STEPS_MOST = 300;
        private static final int STACK_MOST = 64;

        boolean told;
        int units;
        private int steps;
        private final int[] kinds;
        private final int[] numbers;
        private final int[] stack;
        private final int[] given;

        Formula() {
            kinds = new int[STEPS_MOST];
            numbers = new int[STEPS_MOST];
            stack = new int[STACK_MOST];
            given = new int[NAMES];
        }

        void clear() {
            told = false;
            units = 0;
            steps = 0;
        }

        void addStep(int kind, int number) {
            if (steps < STEPS_MOST) {
                kinds[steps] = kind;
                numbers[steps] = number;
                steps++;
            }
        }

        int value(int stripes, int likes, int alone, int sat, int sand, int hours) {
            if (!told) {
                return within(5 + alone * 2 - stripes + likes);
            }
            given[0] = stripes;
            given[1] = likes;
            given[2] = alone;
            given[3] = sat;
            given[4] = sand;
            given[5] = hours;
            return within(run());
        }

        private static int within(int value) {
            return Math.max(0, Math.min(HAD_MOST, value));
        }

        private int run() {
            int height = 0;
            for (int i = 0; i < steps; i++) {
                int kind = kinds[i];
                if (kind == NUMBER || kind == NAMED) {
                    if (height < STACK_MOST) {
                        stack[height] = kind == NUMBER ? numbers[i] : named(numbers[i]);
                        height++;
                    }
                } else if (kind == NOT) {
                    if (height > 0) {
                        stack[height - 1] = stack[height - 1] == 0 ? 1 : 0;
                    }
                } else if (height > 1) {
                    stack[height - 2] = joined(kind, stack[height - 2], stack[height - 1]);
                    height--;
                }
            }
            return height > 0 ? stack[0] : 0;
        }

        private int named(int name) {
            return name >= 0 && name < NAMES ? given[name] : 0;
        }

        private static int joined(int kind, int a, int b) {
            switch (kind) {
                case '+':
                    return a + b;
                case '-':
                    return a - b;
                case '*':
                    return a * b;
                case '/':
                    return b == 0 ? 0 : a / b;
                case '%':
                    return b == 0 ? 0 : a % b;
                case '<':
                    return a < b ? 1 : 0;
                case '>':
                    return a > b ? 1 : 0;
                case '=':
                    return a == b ? 1 : 0;
                case AND:
                    return a != 0 && b != 0 ? 1 : 0;
                case OR:
                    return a != 0 || b != 0 ? 1 : 0;
                default:
                    return 0;
            }
        }
    }

    /** A BEACH as it was told. */
    private static final class Told {
        int chairs;
        int sitters;
        int gust;
        int draw;
        boolean gustTold;
        boolean drawTold;
        final long[] chairNames;
        final long[] sitterNames;
        final int[] stripes;
        final int[] joints;
        final int[] purse;
        final int[] likes;
        final Formula formula;

        Told() {
            chairNames = new long[MOST];
            sitterNames = new long[MOST];
            stripes = new int[MOST];
            joints = new int[MOST];
            purse = new int[MOST];
            likes = new int[MOST];
            formula = new Formula();
        }

        void clear() {
            chairs = 0;
            sitters = 0;
            gust = 0;
            draw = 0;
            gustTold = false;
            drawTold = false;
            formula.clear();
        }

        void addChair(long name, int itsStripes, int itsJoints) {
            if (chairs < MOST) {
                chairNames[chairs] = name;
                stripes[chairs] = itsStripes;
                joints[chairs] = itsJoints;
                chairs++;
            }
        }

        void addSitter(long name, int hisPurse, int hisLikes) {
            if (sitters < MOST) {
                sitterNames[sitters] = name;
                purse[sitters] = hisPurse;
                likes[sitters] = hisLikes;
                sitters++;
            }
        }
    }

    /**
     * A text parted into TOKENS. A sign's kind is its byte, that of a word which stands for itself its
     * number; no TOKENS are read behind what is none, as a text is not understood beyond it.
     */
    private static final class Tokens {
        static final int END = 256;
        static final int NO_TOKEN = 257;
        static final int NAME = 258;
        static final int NUMBER = 259;
        static final int CHAIR = 300;
        static final int SITTER = 301;
        static final int HAD = 302;
        static final int GUST = 303;
        static final int DRAW = 304;
        static final int SHUT = 305;
        static final int PURSE = 306;
        static final int OR = 307;
        static final int AND = 308;
        static final int NOT = 309;
        // From here on in the order in which a formula is given what the words name.
        static final int STRIPES = 310;
        static final int LIKES = 311;
        static final int HOURS = 315;

        private static final int WORDS = 16;
        private static final int WORD_MOST = 8;
        private static final int DIGITS_MOST = 4;
        private static final String SIGNS = ";()<>=+-*/%";
        // The words in the order of their numbers from CHAIR on, each filled up to eight signs.
        private static final String TELLING = "chair   sitter  had     gust    draw    shut    purse   or      ";
        private static final String NAMING = "and     not     stripes likes   alone   sat     sand    hour    ";

        private final long[] words;
        private final int[] kinds;
        private final int[] places;
        // Of a NUMBER what it is, of a word its letters in five bits each.
        private final long[] values;
        private int count;
        private byte[] text;
        private int length;
        private int at;

        Tokens() {
            words = new long[WORDS];
            kinds = new int[TAPE_MOST + 1];
            places = new int[TAPE_MOST + 1];
            values = new long[TAPE_MOST + 1];
            for (int w = 0; w < WORDS; w++) {
                String half = w < WORDS / 2 ? TELLING : NAMING;
                words[w] = wordIn(half, w % (WORDS / 2) * WORD_MOST);
            }
        }

        int kind(int i) {
            return i >= 0 && i < count ? kinds[i] : END;
        }

        int place(int i) {
            return i >= 0 && i < count ? places[i] : length;
        }

        long value(int i) {
            return i >= 0 && i < count ? values[i] : 0;
        }

        void read(byte[] itsText, int itsLength) {
            text = itsText;
            length = Math.max(0, Math.min(itsLength, Math.min(itsText.length, TAPE_MOST)));
            count = 0;
            at = 0;
            boolean fine = true;
            for (int i = 0; i <= length && at < length && fine; i++) {
                int sign = byteAt(at);
                if (isBlank(sign)) {
                    at++;
                } else {
                    fine = readToken(sign);
                }
            }
        }

        private boolean readToken(int sign) {
            if (isLetter(sign)) {
                return readWord();
            }
            if (isDigit(sign)) {
                return readNumber();
            }
            return put(SIGNS.indexOf((char) sign) >= 0 ? sign : NO_TOKEN, at++, 0);
        }

        private boolean readWord() {
            int from = at;
            long letters = 0;
            for (int i = from; i < length && isLetter(byteAt(i)); i++) {
                letters = letters * 32 + letter(byteAt(i));
                at = i + 1;
            }
            return put(at - from > WORD_MOST ? NO_TOKEN : kindOfWord(letters), from, letters);
        }

        private boolean readNumber() {
            int from = at;
            int number = 0;
            for (int i = from; i < length && isDigit(byteAt(i)); i++) {
                number = number * 10 + (byteAt(i) - '0');
                at = i + 1;
            }
            boolean fine = at - from <= DIGITS_MOST && !isLetter(byteAt(at));
            return put(fine ? NUMBER : NO_TOKEN, from, number);
        }

        private boolean put(int kind, int place, long value) {
            if (count < kinds.length) {
                kinds[count] = kind;
                places[count] = place;
                values[count] = value;
                count++;
            }
            return kind != NO_TOKEN;
        }

        private int kindOfWord(long letters) {
            for (int w = 0; w < WORDS; w++) {
                if (words[w] == letters) {
                    return CHAIR + w;
                }
            }
            return NAME;
        }

        private int byteAt(int i) {
            return i >= 0 && i < length ? text[i] & 255 : NONE;
        }

        private static long wordIn(String filled, int from) {
            long letters = 0;
            for (int i = from; i < from + WORD_MOST && i < filled.length(); i++) {
                if (isLetter(filled.charAt(i))) {
                    letters = letters * 32 + letter(filled.charAt(i));
                }
            }
            return letters;
        }

        private static int letter(int sign) {
            return sign - 'a' + 1;
        }

        private static boolean isBlank(int sign) {
            return sign == 32 || sign == 10;
        }

        private static boolean isLetter(int sign) {
            return sign >= 'a' && sign <= 'z';
        }

        private static boolean isDigit(int sign) {
            return sign >= '0' && sign <= '9';
        }
    }

    /** Reads a text as a BEACH, line by line, up to its first FAULT. */
    private static final class Parser {
        private static final int NO_TOKEN = 1;
        private static final int MISPLACED = 2;
        private static final int NAME_AGAIN = 3;
        private static final int NO_SUCH_NUMBER = 4;
        private static final int STRIPES_MOST = 9;
        private static final int JOINT_MOST = 3;
        private static final int PURSE_TOLD_MOST = 99;
        private static final int LIKES_MOST = 9;
        private static final int GUST_MOST = 100;
        private static final int DRAW_MOST = 999;
        private static final int UNITS_MOST = 60;
        private static final int UNITS_IN_ONE_MOST = 30;
        private static final int NESTED_MOST = 6;

        int fault;
        int faultPlace;
        private final Tokens tokens;
        private int next;
        private int kind;
        private Told target;

        Parser() {
            tokens = new Tokens();
            fault = 0;
            faultPlace = NONE;
        }

        boolean parse(byte[] text, int length, Told itsTarget) {
            fault = 0;
            faultPlace = NONE;
            target = itsTarget;
            target.clear();
            tokens.read(text, length);
            goTo(0);
            for (int i = 0; i < TAPE_MOST && fault == 0 && kind != Tokens.END; i++) {
                readLine();
            }
            return fault == 0;
        }

        private void goTo(int token) {
            next = token;
            kind = tokens.kind(token);
        }

        private void readLine() {
            switch (kind) {
                case Tokens.CHAIR:
                    readChair();
                    break;
                case Tokens.SITTER:
                    readSitter();
                    break;
                case Tokens.HAD:
                    readFormula();
                    break;
                case Tokens.GUST:
                    readGust();
                    break;
                case Tokens.DRAW:
                    readDraw();
                    break;
                default:
                    refuseToken();
            }
            expect(';');
        }

        private void readChair() {
            if (target.chairs >= MOST) {
                refuseToken();
            }
            expect(Tokens.CHAIR);
            long name = readName(target.chairNames, target.chairs);
            expect(Tokens.STRIPES);
            int stripes = readNumber(STRIPES_MOST);
            int joints = 0;
            if (fault == 0 && kind == Tokens.SHUT) {
                goTo(next + 1);
                for (int i = 0; i < Hinge.JOINTS; i++) {
                    joints = joints * Hinge.JOINT + readNumber(JOINT_MOST);
                }
            }
            if (fault == 0) {
                target.addChair(name, stripes, joints);
            }
        }

        private void readSitter() {
            if (target.sitters >= MOST) {
                refuseToken();
            }
            expect(Tokens.SITTER);
            long name = readName(target.sitterNames, target.sitters);
            expect(Tokens.PURSE);
            int purse = readNumber(PURSE_TOLD_MOST);
            expect(Tokens.LIKES);
            int likes = readNumber(LIKES_MOST);
            if (fault == 0) {
                target.addSitter(name, purse, likes);
            }
        }

        private void readGust() {
            if (target.gustTold) {
                refuseToken();
            }
            expect(Tokens.GUST);
            target.gust = readNumber(GUST_MOST);
            target.gustTold = true;
        }

        private void readDraw() {
            if (target.drawTold) {
                refuseToken();
            }
            expect(Tokens.DRAW);
            target.draw = readNumber(DRAW_MOST);
            target.drawTold = true;
        }

        private void readFormula() {
            if (target.formula.told) {
                refuseToken();
            }
            expect(Tokens.HAD);
            readEither(0);
            target.formula.told = true;
        }

        private void readEither(int depth) {
            readBoth(depth);
            for (int i = 0; i < TAPE_MOST && fault == 0 && kind == Tokens.OR; i++) {
                goTo(next + 1);
                readBoth(depth);
                target.formula.addStep(Formula.OR, 0);
            }
        }

        private void readBoth(int depth) {
            readOne(depth);
            for (int i = 0; i < TAPE_MOST && fault == 0 && kind == Tokens.AND; i++) {
                goTo(next + 1);
                readOne(depth);
                target.formula.addStep(Formula.AND, 0);
            }
        }

        private void readOne(int depth) {
            if (fault != 0) {
                return;
            }
            if (kind == Tokens.NOT) {
                readNot(depth);
                return;
            }
            readSum(depth);
            int sign = kind;
            if (fault == 0 && (sign == '<' || sign == '>' || sign == '=')) {
                goTo(next + 1);
                readSum(depth);
                target.formula.addStep(sign, 0);
            }
        }

        private void readNot(int depth) {
            if (depth > NESTED_MOST) {
                refuseToken();
                return;
            }
            goTo(next + 1);
            readOne(depth + 1);
            target.formula.addStep(Formula.NOT, 0);
        }

        private void readSum(int depth) {
            readTerm(depth);
            for (int i = 0; i < TAPE_MOST && fault == 0 && (kind == '+' || kind == '-'); i++) {
                int sign = kind;
                goTo(next + 1);
                readTerm(depth);
                target.formula.addStep(sign, 0);
            }
        }

        private void readTerm(int depth) {
            readUnit(depth);
            for (int i = 0; i < TAPE_MOST && fault == 0 && isTermSign(kind); i++) {
                int sign = kind;
                goTo(next + 1);
                readUnit(depth);
                target.formula.addStep(sign, 0);
            }
        }

        private static boolean isTermSign(int kind) {
            return kind == '*' || kind == '/' || kind == '%';
        }

        private void readUnit(int depth) {
            if (fault != 0) {
                return;
            }
            boolean named = kind >= Tokens.STRIPES && kind <= Tokens.HOURS;
            if (kind != Tokens.NUMBER && kind != '(' && !named || isUnitTooMany()) {
                refuseToken();
                return;
            }
            target.formula.units++;
            if (kind == '(') {
                readNested(depth);
            } else if (named) {
                target.formula.addStep(Formula.NAMED, kind - Tokens.STRIPES);
                goTo(next + 1);
            } else {
                target.formula.addStep(Formula.NUMBER, (int) tokens.value(next));
                goTo(next + 1);
            }
        }

        /** There is one had at most, so that the units of its e are all units. */
        private boolean isUnitTooMany() {
            return target.formula.units >= Math.min(UNITS_MOST, UNITS_IN_ONE_MOST);
        }

        private void readNested(int depth) {
            if (depth > NESTED_MOST) {
                refuseToken();
                return;
            }
            goTo(next + 1);
            readEither(depth + 1);
            expect(')');
        }

        private long readName(long[] names, int count) {
            if (fault != 0) {
                return 0;
            }
            if (kind != Tokens.NAME) {
                refuseToken();
                return 0;
            }
            long name = tokens.value(next);
            for (int i = 0; i < count && i < names.length; i++) {
                if (names[i] == name) {
                    refuse(NAME_AGAIN);
                }
            }
            goTo(next + 1);
            return name;
        }

        private int readNumber(int most) {
            if (fault != 0) {
                return 0;
            }
            if (kind != Tokens.NUMBER) {
                refuseToken();
                return 0;
            }
            int number = (int) tokens.value(next);
            if (number > most) {
                refuse(NO_SUCH_NUMBER);
            }
            goTo(next + 1);
            return number;
        }

        private void expect(int due) {
            if (fault != 0) {
                return;
            }
            if (kind != due) {
                refuseToken();
                return;
            }
            goTo(next + 1);
        }

        private void refuseToken() {
            refuse(kind == Tokens.NO_TOKEN ? NO_TOKEN : MISPLACED);
        }

        /** Only the first FAULT counts: the text is read in the order of its places. */
        private void refuse(int what) {
            if (fault == 0) {
                fault = what;
                faultPlace = tokens.place(next);
            }
        }
    }

    /** JOINTS of a CHAIR as a number 0 .. 63, its MOVES, and how far each number is from OPEN. */
    private static final class Hinge {
        static final int OPEN = 0;
        static final int SHUT_BY_GUST = 27;
        static final int JOINTS = 3;
        static final int JOINT = 4;
        static final int MOVES = 4;
        private static final int NUMBERS = 64;
        // What each MOVE adds to the first, the second and the third JOINT, modulo 4.
        private static final int[] ADDED = {1, 1, 0, 0, 3, 1, 3, 0, 2, 1, 1, 1};

        final int farthest;
        private final int[] distance;

        Hinge() {
            distance = new int[NUMBERS];
            for (int i = 0; i < NUMBERS; i++) {
                distance[i] = NONE;
            }
            measure();
            farthest = firstGreatest(distance, NUMBERS);
        }

        static int joint(int joints, int which) {
            return which < 0 || which >= JOINTS ? 0 : joints >> (4 - 2 * which) & 3;
        }

        static int after(int joints, int move) {
            return shifted(joints, move, 1);
        }

        int movesFrom(int joints) {
            return joints >= 0 && joints < NUMBERS ? distance[joints] : 0;
        }

        /** The least MOVE that is the first one of a shortest row. */
        int firstMoveFrom(int joints) {
            for (int move = 0; move < MOVES; move++) {
                if (movesFrom(after(joints, move)) == movesFrom(joints) - 1) {
                    return move;
                }
            }
            return 0;
        }

        private static int shifted(int joints, int move, int times) {
            if (move < 0 || move >= MOVES) {
                return joints;
            }
            int result = 0;
            for (int i = 0; i < JOINTS; i++) {
                int moved = joint(joints, i) + times * ADDED[move * JOINTS + i] & 3;
                result = result * JOINT + moved;
            }
            return result;
        }

        /** Goes out from OPEN by MOVES taken backwards, nearest numbers first. */
        private void measure() {
            int[] reached = new int[NUMBERS];
            int count = 1;
            reached[0] = OPEN;
            distance[OPEN] = 0;
            for (int i = 0; i < count && i < NUMBERS; i++) {
                for (int move = 0; move < MOVES; move++) {
                    int before = shifted(reached[i], move, -1);
                    if (distance[before] == NONE && count < NUMBERS) {
                        distance[before] = distance[reached[i]] + 1;
                        reached[count] = before;
                        count++;
                    }
                }
            }
        }
    }

    /** All that ACTS change: JOINTS, SAND, who SITS where, how long, purses, what was HAD, hour, SEED. */
    private static final class Scene {
        static final int SIZE = 6 * MOST + 2;
        private static final int SEEDS = 1000;

        private Told told;
        final int[] joints;
        final int[] sand;
        final int[] place;
        final int[] sat;
        final int[] purse;
        final int[] hadEver;
        int hours;
        int seed;

        Scene(Told itsBeach) {
            told = itsBeach;
            joints = new int[MOST];
            sand = new int[MOST];
            place = new int[MOST];
            sat = new int[MOST];
            purse = new int[MOST];
            hadEver = new int[MOST];
        }

        void begin(Told itsBeach) {
            told = itsBeach;
            for (int i = 0; i < MOST; i++) {
                joints[i] = told.joints[i];
                sand[i] = 0;
                place[i] = NONE;
                sat[i] = 0;
                purse[i] = told.purse[i];
                hadEver[i] = 0;
            }
            hours = 0;
            seed = told.draw;
        }

        void copyFrom(Scene other) {
            told = other.told;
            System.arraycopy(other.joints, 0, joints, 0, MOST);
            System.arraycopy(other.sand, 0, sand, 0, MOST);
            System.arraycopy(other.place, 0, place, 0, MOST);
            System.arraycopy(other.sat, 0, sat, 0, MOST);
            System.arraycopy(other.purse, 0, purse, 0, MOST);
            System.arraycopy(other.hadEver, 0, hadEver, 0, MOST);
            hours = other.hours;
            seed = other.seed;
        }

        void writeTo(int[] cells, int from) {
            if (from < 0 || from > cells.length - SIZE) {
                return;
            }
            System.arraycopy(joints, 0, cells, from, MOST);
            System.arraycopy(sand, 0, cells, from + MOST, MOST);
            System.arraycopy(place, 0, cells, from + 2 * MOST, MOST);
            System.arraycopy(sat, 0, cells, from + 3 * MOST, MOST);
            System.arraycopy(purse, 0, cells, from + 4 * MOST, MOST);
            System.arraycopy(hadEver, 0, cells, from + 5 * MOST, MOST);
            cells[from + 6 * MOST] = hours;
            cells[from + 6 * MOST + 1] = seed;
        }

        void readFrom(int[] cells, int from) {
            if (from < 0 || from > cells.length - SIZE) {
                return;
            }
            System.arraycopy(cells, from, joints, 0, MOST);
            System.arraycopy(cells, from + MOST, sand, 0, MOST);
            System.arraycopy(cells, from + 2 * MOST, place, 0, MOST);
            System.arraycopy(cells, from + 3 * MOST, sat, 0, MOST);
            System.arraycopy(cells, from + 4 * MOST, purse, 0, MOST);
            System.arraycopy(cells, from + 5 * MOST, hadEver, 0, MOST);
            hours = cells[from + 6 * MOST];
            seed = cells[from + 6 * MOST + 1];
        }

        int chairs() {
            return told.chairs;
        }

        int sitters() {
            return told.sitters;
        }

        boolean isOpen(int chair) {
            return joints[chair] == Hinge.OPEN;
        }

        boolean sits(int sitter) {
            return place[sitter] >= 0;
        }

        int whoSits(int chair) {
            for (int s = 0; s < told.sitters; s++) {
                if (place[s] == chair) {
                    return s;
                }
            }
            return NONE;
        }

        boolean isFree(int chair) {
            return isOpen(chair) && whoSits(chair) == NONE;
        }

        int openOnes() {
            int bits = 0;
            for (int c = 0; c < told.chairs; c++) {
                if (isOpen(c)) {
                    bits |= 1 << c;
                }
            }
            return bits;
        }

        int taken() {
            return takenByOthers(NONE);
        }

        int takenByOthers(int sitter) {
            int bits = 0;
            for (int s = 0; s < told.sitters; s++) {
                if (s != sitter && place[s] >= 0) {
                    bits |= 1 << place[s];
                }
            }
            return bits;
        }

        int freeOnes() {
            return openOnes() & ~taken();
        }

        static boolean standsAlone(int chair, int taken) {
            int one = 1 << chair;
            return (taken & (one << 1 | one >> 1)) == 0;
        }

        int worthAt(int sitter, int chair, int taken, int itsSand, int itsHours) {
            int alone = standsAlone(chair, taken) ? 1 : 0;
            int hisSat = place[sitter] == chair ? sat[sitter] : 0;
            return told.formula.value(told.stripes[chair], told.likes[sitter], alone, hisSat, itsSand, itsHours);
        }

        int worth(int sitter, int chair, int taken) {
            return worthAt(sitter, chair, taken, sand[chair], hours);
        }

        /** What he would have there, all others as they SIT. */
        int worthFor(int sitter, int chair) {
            return worth(sitter, chair, takenByOthers(sitter));
        }

        int worthOfAll() {
            int taken = taken();
            int sum = 0;
            for (int s = 0; s < told.sitters; s++) {
                if (place[s] >= 0) {
                    sum += worth(s, place[s], taken);
                }
            }
            return sum;
        }

        void sitDown(int sitter, int chair) {
            place[sitter] = chair;
            sat[sitter] = 0;
        }

        void getUp(int sitter) {
            place[sitter] = NONE;
            sat[sitter] = 0;
        }

        int passHour(boolean gusts) {
            int paid = 0;
            for (int s = 0; s < told.sitters; s++) {
                if (place[s] >= 0) {
                    paid += payOrGetUp(s, place[s]);
                }
            }
            if (gusts) {
                blow();
            }
            hours++;
            return paid;
        }

        private int payOrGetUp(int sitter, int chair) {
            int price = worthAt(sitter, chair, taken(), sand[chair], hours);
            if (purse[sitter] < price) {
                getUp(sitter);
                return 0;
            }
            purse[sitter] -= price;
            hadEver[sitter] = Math.min(HAD_EVER_MOST, hadEver[sitter] + price);
            sat[sitter]++;
            sand[chair] = Math.min(SAND_MOST, sand[chair] + 1);
            return price;
        }

        private void blow() {
            int free = freeOnes();
            for (int c = 0; c < told.chairs; c++) {
                if ((free >> c & 1) != 0) {
                    seed = (seed * 137 + 71) % SEEDS;
                    if (seed % 100 < told.gust) {
                        joints[c] = Hinge.SHUT_BY_GUST;
                    }
                }
            }
        }
    }

    /** Scenes put away, one behind another in one row of cells. */
    private static final class Shelf {
        private final int[] cells;

        Shelf(int scenes) {
            cells = new int[Math.max(0, scenes) * Scene.SIZE];
        }

        void put(int i, Scene scene) {
            scene.writeTo(cells, i * Scene.SIZE);
        }

        void take(int i, Scene scene) {
            scene.readFrom(cells, i * Scene.SIZE);
        }

        void dropFirst() {
            if (cells.length >= Scene.SIZE) {
                System.arraycopy(cells, Scene.SIZE, cells, 0, cells.length - Scene.SIZE);
            }
        }
    }

    /** What UNDO and REDO need: the scenes before and behind each ACT that is kept. */
    private static final class Past {
        private static final int KEPT_MOST = 40;

        int behind;
        int ahead;
        private final Shelf scenes;

        Past() {
            scenes = new Shelf(KEPT_MOST + 1);
        }

        void begin(Scene scene) {
            behind = 0;
            ahead = 0;
            scenes.put(0, scene);
        }

        void keep(Scene scene) {
            if (behind >= KEPT_MOST) {
                scenes.dropFirst();
            } else {
                behind++;
            }
            ahead = 0;
            scenes.put(behind, scene);
        }

        boolean stepBack(Scene scene) {
            if (behind == 0) {
                return false;
            }
            behind--;
            ahead++;
            scenes.take(behind, scene);
            return true;
        }

        boolean stepOn(Scene scene) {
            if (ahead == 0) {
                return false;
            }
            ahead--;
            behind++;
            scenes.take(behind, scene);
            return true;
        }
    }

    /** Looks through all seatings: those of SEAT, and those of RING. */
    private static final class Seater {
        final int[] found;
        private final int[] tried;
        // By SITTER and CHAIR: what is HAD there alone, and with a neighbour.
        private final int[] worthAlone;
        private final int[] worthBeside;
        private final int[] own;
        private int chairs;
        private int sitters;
        private int open;
        private int absent;
        private int foundSum;
        private int foundChanges;

        Seater() {
            found = new int[MOST];
            tried = new int[MOST];
            worthAlone = new int[MOST * MOST];
            worthBeside = new int[MOST * MOST];
            own = new int[MOST];
        }

        /** Seats all but one (NONE: all) so that most is HAD: how much; found tells who sits where. */
        int seatAllBut(Scene scene, int left) {
            chairs = scene.chairs();
            sitters = scene.sitters();
            open = scene.openOnes();
            absent = left;
            foundSum = NONE;
            for (int s = 0; s < sitters; s++) {
                for (int c = 0; c < chairs; c++) {
                    worthAlone[s * MOST + c] = scene.worth(s, c, 0);
                    worthBeside[s * MOST + c] = scene.worth(s, c, ~0);
                }
            }
            seatFrom(0, 0);
            return foundSum;
        }

        /** What one has in the seating that was found. */
        int partOf(int sitter) {
            return worthIn(found, sitter, takenIn(found));
        }

        private void seatFrom(int sitter, int taken) {
            if (sitter >= sitters || sitter >= MOST) {
                weigh(taken);
                return;
            }
            for (int c = 0; c < chairs && sitter != absent; c++) {
                if ((open & ~taken & 1 << c) != 0) {
                    tried[sitter] = c;
                    seatFrom(sitter + 1, taken | 1 << c);
                }
            }
            tried[sitter] = NONE;
            seatFrom(sitter + 1, taken);
        }

        private void weigh(int taken) {
            int sum = 0;
            for (int s = 0; s < sitters; s++) {
                sum += worthIn(tried, s, taken);
            }
            if (sum > foundSum) {
                remember(sum, 0);
            }
        }

        private int worthIn(int[] seating, int sitter, int taken) {
            int chair = seating[sitter];
            if (chair < 0) {
                return 0;
            }
            int[] worth = Scene.standsAlone(chair, taken) ? worthAlone : worthBeside;
            return worth[sitter * MOST + chair];
        }

        private int takenIn(int[] seating) {
            int bits = 0;
            for (int s = 0; s < sitters; s++) {
                if (seating[s] >= 0) {
                    bits |= 1 << seating[s];
                }
            }
            return bits;
        }

        private void remember(int sum, int changes) {
            foundSum = sum;
            foundChanges = changes;
            System.arraycopy(tried, 0, found, 0, MOST);
        }

        /** Deals the CHAIRS of those who SIT anew as RING wants it: how many change. */
        int dealAnew(Scene scene) {
            chairs = scene.chairs();
            sitters = scene.sitters();
            int taken = scene.taken();
            foundSum = NONE;
            foundChanges = NONE;
            for (int s = 0; s < sitters; s++) {
                own[s] = scene.place[s];
                for (int c = 0; c < chairs; c++) {
                    worthBeside[s * MOST + c] = scene.worth(s, c, taken);
                }
            }
            dealFrom(0, taken, 0, 0);
            return foundChanges;
        }

        private void dealFrom(int sitter, int left, int changes, int sum) {
            if (sitter >= sitters || sitter >= MOST) {
                if (changes > foundChanges || changes == foundChanges && sum > foundSum) {
                    remember(sum, changes);
                }
                return;
            }
            int mine = own[sitter];
            if (mine < 0) {
                tried[sitter] = NONE;
                dealFrom(sitter + 1, left, changes, sum);
                return;
            }
            int has = worthBeside[sitter * MOST + mine];
            for (int c = 0; c < chairs; c++) {
                int would = worthBeside[sitter * MOST + c];
                if ((left & 1 << c) != 0 && (c == mine || would > has)) {
                    tried[sitter] = c;
                    dealFrom(sitter + 1, left & ~(1 << c), c == mine ? changes : changes + 1, sum + would);
                }
            }
        }
    }

    /** Two SITTERS who make for a CHAIR each. */
    private static final class Duel {
        int firstChair;
        int otherChair;
        // By his own CHAIR and the other one's: what he would have.
        private final int[] hisWorth;
        private final int[] othersWorth;

        Duel() {
            hisWorth = new int[MOST * MOST];
            othersWorth = new int[MOST * MOST];
        }

        int countRests(Scene scene, int sitter, int other) {
            int free = scene.freeOnes();
            fillWorth(scene, sitter, free, hisWorth);
            fillWorth(scene, other, free, othersWorth);
            int rests = 0;
            for (int a = 0; a < MOST; a++) {
                for (int b = 0; b < MOST; b++) {
                    if (areFree(free, a, b) && isBest(hisWorth, free, a, b) && isBest(othersWorth, free, b, a)) {
                        if (rests == 0) {
                            firstChair = a;
                            otherChair = b;
                        }
                        rests++;
                    }
                }
            }
            return rests;
        }

        private static boolean areFree(int free, int a, int b) {
            return (free >> a & free >> b & 1) != 0;
        }

        private static void fillWorth(Scene scene, int sitter, int free, int[] worth) {
            int taken = scene.taken();
            for (int a = 0; a < MOST; a++) {
                for (int b = 0; b < MOST; b++) {
                    boolean gets = a != b && areFree(free, a, b);
                    worth[a * MOST + b] = gets ? scene.worth(sitter, a, taken | 1 << a | 1 << b) : 0;
                }
            }
        }

        private static boolean isBest(int[] worth, int free, int mine, int others) {
            for (int c = 0; c < MOST; c++) {
                if ((free >> c & 1) != 0 && worth[c * MOST + others] > worth[mine * MOST + others]) {
                    return false;
                }
            }
            return true;
        }
    }

    /** What is SEEN of the last SITTER, and the likings that fit it; the TIME goes on over BEACHES. */
    private static final class Guesses {
        private static final int SEEN_MOST = 30;
        private static final int LIKINGS = 31;
        private static final int LATER_MOST = 1000;
        private static final int TIME_MOST = 100000;

        int count;
        int time;
        private int chairs;
        private int sitters;
        // By CHAIR and liking: what the last SITTER would have in his first hour.
        private final int[] worth;
        private final int[] chair;
        private final int[] much;
        private final boolean[] isSo;
        private final int[] toldAt;
        private final int[] untoldAt;
        private final int[] tally;

        Guesses() {
            worth = new int[MOST * LIKINGS];
            chair = new int[SEEN_MOST];
            much = new int[SEEN_MOST];
            isSo = new boolean[SEEN_MOST];
            toldAt = new int[SEEN_MOST];
            untoldAt = new int[SEEN_MOST];
            tally = new int[HAD_MOST + 1];
        }

        void begin(Told told) {
            count = 0;
            chairs = told.chairs;
            sitters = told.sitters;
            for (int c = 0; c < chairs; c++) {
                for (int liking = 0; liking < LIKINGS; liking++) {
                    worth[c * LIKINGS + liking] = told.formula.value(told.stripes[c], liking, 1, 0, 0, 0);
                }
            }
        }

        int tell(int itsChair, int itsMuch, boolean itIs) {
            if (count >= SEEN_MOST) {
                return NONE;
            }
            chair[count] = itsChair;
            much[count] = itsMuch;
            isSo[count] = itIs;
            toldAt[count] = time;
            untoldAt[count] = NONE;
            count++;
            return count - 1;
        }

        boolean takeBack(int i) {
            if (i < 0 || i >= count || i >= SEEN_MOST || untoldAt[i] != NONE) {
                return false;
            }
            untoldAt[i] = time;
            return true;
        }

        int goOn(int by) {
            if (by < 0 || by > LATER_MOST || time + by > TIME_MOST) {
                return NONE;
            }
            time += by;
            return time;
        }

        /** The likings that fit all that counts at a TIME, as bits. */
        int fitting(int at) {
            if (sitters == 0) {
                return 0;
            }
            int bits = 0;
            for (int liking = 0; liking < LIKINGS; liking++) {
                if (fitsAll(liking, at)) {
                    bits |= 1 << liking;
                }
            }
            return bits;
        }

        static int least(int fitting) {
            for (int liking = 0; liking < LIKINGS; liking++) {
                if ((fitting >> liking & 1) != 0) {
                    return liking;
                }
            }
            return NONE;
        }

        static int greatest(int fitting) {
            for (int liking = LIKINGS - 1; liking >= 0; liking--) {
                if ((fitting >> liking & 1) != 0) {
                    return liking;
                }
            }
            return NONE;
        }

        /** How many of the likings are left at the most, once it is known what is HAD in a CHAIR. */
        int leftAtMost(int itsChair, int fitting) {
            for (int i = 0; i < tally.length; i++) {
                tally[i] = 0;
            }
            int most = 0;
            for (int liking = 0; liking < LIKINGS; liking++) {
                if ((fitting >> liking & 1) != 0) {
                    int value = worth[itsChair * LIKINGS + liking];
                    tally[value]++;
                    most = Math.max(most, tally[value]);
                }
            }
            return most;
        }

        private boolean fitsAll(int liking, int at) {
            for (int i = 0; i < count && i < SEEN_MOST; i++) {
                if (counts(i, at) && isSo[i] != worth[chair[i] * LIKINGS + liking] >= much[i]) {
                    return false;
                }
            }
            return true;
        }

        private boolean counts(int i, int at) {
            boolean untold = untoldAt[i] != NONE && untoldAt[i] <= at;
            return toldAt[i] <= at && !untold;
        }
    }
}
