import java.util.IdentityHashMap;
import java.util.Map;

/**
 * Two objects brought to one state by the same calls: a call on one of them that is refused, or that
 * just looks, must leave no trace by which the two could be told apart, now or later.
 */
final class Twins {
    /** What an untouched object tells, by the calls that made it: with what lies there, and without. */
    private static final Map<Calls, String[]> UNTOUCHED = new IdentityHashMap<>();
    private static final int MIN = Integer.MIN_VALUE;
    private static final int MAX = Integer.MAX_VALUE;

    interface Calls {
        void on(DeckChairs x);
    }

    interface Call {
        long on(DeckChairs x);
    }

    private Twins() {
    }

    /** The call answers what is due, and all stays. */
    static void refused(String what, Calls before, Call call, long answer) {
        DeckChairs x = made(before);
        Check.due(what, call.on(x), answer);
        same(what, trace(x, true), untouched(before, true));
    }

    /** Whatever the call answers: all stays, but for what lies there if that is told. */
    static void looks(String what, Calls before, Call call, boolean liesStays) {
        DeckChairs x = made(before);
        call.on(x);
        same(what, trace(x, liesStays), untouched(before, liesStays));
    }

    private static String untouched(Calls before, boolean withLies) {
        String[] both = UNTOUCHED.computeIfAbsent(before,
                calls -> new String[] {trace(made(calls), false), trace(made(calls), true)});
        return both[withLies ? 1 : 0];
    }

    static DeckChairs made(Calls before) {
        DeckChairs x = new DeckChairs();
        before.on(x);
        return x;
    }

    /** Two traces are alike; where they are not, the first place at which they part is told. */
    static void same(String what, String got, String want) {
        int part = 0;
        while (part < got.length() && part < want.length() && got.charAt(part) == want.charAt(part)) {
            part++;
        }
        boolean alike = got.equals(want);
        Check.due(alike ? what + " leaves all as it was" : what + " leaves " + around(got, part) + " for "
                + around(want, part), alike, true);
    }

    private static String around(String trace, int at) {
        int from = Math.max(0, trace.lastIndexOf('\n', Math.min(at, trace.length() - 1)));
        return trace.substring(from, Math.min(trace.length(), at + 30)).trim();
    }

    /** All that an object can be asked now, and what it answers when it is undone, redone, set back, told. */
    static String trace(DeckChairs x, boolean withLies) {
        StringBuilder t = new StringBuilder();
        t.append(look(x));
        if (withLies) {
            t.append(lying(x));
        }
        boolean goesOn = true;
        for (int i = 0; i < 50 && goesOn; i++) {
            goesOn = x.undo();
            t.append("\nundo ").append(goesOn).append(look(x));
        }
        goesOn = true;
        for (int i = 0; i < 50 && goesOn; i++) {
            goesOn = x.redo();
            t.append("\nredo ").append(goesOn).append(look(x));
        }
        for (int box = 0; box < 3; box++) {
            t.append("\nback ").append(x.back(box)).append(look(x));
        }
        for (int i = 0; i < 31; i++) {
            t.append("\nuntell ").append(i).append(x.untell(i));
        }
        t.append("\nseen ").append(x.seen(0, 1, true)).append(look(x));
        t.append("\nfeed ").append(x.feed(0x20202020, 0x20202020, 0x20202020, 0x20202020, 0x20202020));
        t.append("\nbeach ").append(x.beach()).append(look(x));
        return t.toString();
    }

    /** All that can be asked without changing anything. */
    static String look(DeckChairs x) {
        StringBuilder t = new StringBuilder();
        for (int what = 0; what <= 13; what++) {
            if (what != 12) {
                t.append("\nabout ").append(what).append(": ").append(x.about(what));
            }
        }
        t.append("\nfault ").append(x.fault(0)).append(' ').append(x.fault(1));
        for (int i = 0; i < 5; i++) {
            for (int what = 0; what < 7; what++) {
                t.append("\nchair ").append(i).append(' ').append(what).append(": ").append(x.chair(i, what));
            }
            for (int what = 0; what < 5; what++) {
                t.append("\nsitter ").append(i).append(' ').append(what).append(": ").append(x.sitter(i, what));
            }
            for (int c = 0; c < 5; c++) {
                t.append("\nhad ").append(i).append(' ').append(c).append(": ").append(x.had(i, c));
            }
        }
        int time = x.about(9);
        for (int k : new int[] {MIN, -1, 0, 1, 2, 3, 4, 5, 6, 7, 8, time - 1, time, time + 1, MAX}) {
            t.append("\nknown at ").append(k).append(": ").append(x.fits(k)).append(' ').append(x.sure(0, k));
            t.append(' ').append(x.sure(1, k)).append(' ').append(x.ask(0, k)).append(' ').append(x.ask(1, k));
        }
        return t.append("\n").toString();
    }

    private static String lying(DeckChairs x) {
        StringBuilder t = new StringBuilder("\nlies");
        for (int i = -1; i <= x.about(12); i++) {
            t.append(' ').append(x.lies(i));
        }
        return t.toString();
    }
}
