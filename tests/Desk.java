import java.nio.charset.StandardCharsets;
import java.util.NoSuchElementException;

/** What the tests share: feeding texts, counting wrong answers. */
final class Desk {
    private static int asked = 0;
    private static int wrong = 0;

    private Desk() {
    }

    /** A call that may throw. */
    interface Call {
        long answer();
    }

    static void due(String call, long got, long want) {
        asked++;
        if (got != want) {
            wrong++;
            System.out.println(call + " answered " + got + ", due is " + want);
        }
    }

    static void due(String call, boolean got, boolean want) {
        due(call, got ? 1 : 0, want ? 1 : 0);
    }

    static void dueNoSuch(String call, Call tried) {
        boolean thrown = false;
        try {
            tried.answer();
        } catch (NoSuchElementException e) {
            thrown = true;
        }
        due(call + " throws NoSuchElementException", thrown, true);
    }

    static void finish(String name) {
        System.out.println(name + ": " + asked + " answers, " + wrong + " wrong");
        if (asked == 0 || wrong != 0) {
            System.exit(1);
        }
    }

    static TriplicateForms feed(TriplicateForms x, byte... bytes) {
        int before = x.count(3);
        for (int at = 0; at < bytes.length; at += 20) {
            x.feed(number(bytes, at), number(bytes, at + 4), number(bytes, at + 8), number(bytes, at + 12),
                    number(bytes, at + 16));
        }
        x.end(before + bytes.length);
        return x;
    }

    private static int number(byte[] bytes, int at) {
        int number = 0;
        for (int i = at; i < at + 4; i++) {
            number = number << 8 | (i < bytes.length ? bytes[i] & 255 : 0);
        }
        return number;
    }

    static TriplicateForms feed(TriplicateForms x, String text) {
        return feed(x, text.getBytes(StandardCharsets.ISO_8859_1));
    }

    /** A new object with the OFFICE told. */
    static TriplicateForms with(String office) {
        TriplicateForms x = new TriplicateForms();
        int lines = feed(x, office).office();
        if (lines < 0) {
            due("office " + office, lines, 0);
        }
        return x;
    }

    static int office(TriplicateForms x, String text) {
        return feed(x, text).office();
    }

    static int book(TriplicateForms x, String text, int lives) {
        return feed(x, text).book(lives);
    }

    static int sentence(TriplicateForms x, String text) {
        return feed(x, text).sentence();
    }

    static int fits(TriplicateForms x, int... persons) {
        byte[] bytes = new byte[persons.length];
        for (int i = 0; i < bytes.length; i++) {
            bytes[i] = (byte) persons[i];
        }
        return feed(x, bytes).fits();
    }

    static String stamped(TriplicateForms x, int f) {
        StringBuilder text = new StringBuilder();
        int length = x.stamp(f);
        for (int i = 0; i < length; i++) {
            text.append((char) x.byteAt(i));
        }
        return text.toString();
    }

    static void dueText(String call, String got, String want) {
        due(call + " is '" + got + "', like '" + want + "'", got.equals(want), true);
    }

    /** The days drawn once more, by the calls of the face. */
    static int drawByHand(TriplicateForms x, int n, int seed) {
        int[] state = {seed};
        int gone = 0;
        for (int day = 0; day < n && x.now(0) < 400; day++) {
            for (int p = 0; p < x.count(0); p++) {
                if (x.count(1) > 0) {
                    x.sign(p, next(state, x.count(1)));
                }
                int whim = next(state, 6);
                if (whim == 0) {
                    x.resent(p, next(state, x.count(0)));
                } else if (whim == 1) {
                    x.soften(p, next(state, x.count(0)));
                }
            }
            gone += x.days(1);
        }
        return gone;
    }

    private static int next(int[] state, int n) {
        state[0] = state[0] * 1103515245 + 12345;
        return (state[0] >>> 8) % n;
    }
}
