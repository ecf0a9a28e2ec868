import java.nio.charset.StandardCharsets;

/** What the tests share: telling a text to an object, comparing answers, ending with 1 if one was wrong. */
final class Check {
    private static int asked = 0;
    private static int wrong = 0;

    private Check() {
    }

    static void due(String what, long got, long want) {
        asked++;
        if (got != want) {
            wrong++;
            System.out.println(what + " answered " + got + ", due is " + want);
        }
    }

    static int asked() {
        return asked;
    }

    static void due(String what, boolean got, boolean want) {
        due(what, got ? 1 : 0, want ? 1 : 0);
    }

    /** What lies there, all of it and nothing behind it. */
    static void lies(String what, DeckChairs x, int... want) {
        due(what + ": how many lie there", x.about(12), want.length);
        for (int i = 0; i < want.length; i++) {
            due(what + ": lies(" + i + ")", x.lies(i), want[i]);
        }
        due(what + ": lies behind the last", x.lies(want.length), -2);
    }

    /** Puts a text on the (empty) TAPE. */
    static void feed(DeckChairs x, String text) {
        byte[] bytes = text.getBytes(StandardCharsets.ISO_8859_1);
        for (int i = 0; i < bytes.length; i += 20) {
            x.feed(four(bytes, i), four(bytes, i + 4), four(bytes, i + 8), four(bytes, i + 12), four(bytes, i + 16));
        }
        x.end(bytes.length);
    }

    static int tell(DeckChairs x, String text) {
        feed(x, text);
        return x.beach();
    }

    /** A new object with a BEACH that must be without FAULT. */
    static DeckChairs told(String text) {
        DeckChairs x = new DeckChairs();
        int sitters = tell(x, text);
        due("beach() of " + text + " is without fault", sitters >= 0 && x.fault(0) == 0, true);
        return x;
    }

    static void fault(String text, int fault, int place) {
        DeckChairs x = new DeckChairs();
        due("beach() of " + text, tell(x, text), -1);
        due("fault(0) of " + text, x.fault(0), fault);
        due("fault(1) of " + text, x.fault(1), place);
    }

    static void end(String name) {
        System.out.println(name + ": " + asked + " answers, " + wrong + " wrong");
        if (wrong != 0) {
            System.exit(1);
        }
    }

    private static int four(byte[] bytes, int from) {
        int number = 0;
        for (int i = from; i < from + 4; i++) {
            number = number << 8 | (i < bytes.length ? bytes[i] & 255 : 32);
        }
        return number;
    }
}
