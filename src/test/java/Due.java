/** Counts answers that are due or not, and feeds texts; every test here ends by end(). */
final class Due {
    private static int right = 0;
    private static int wrong = 0;

    private Due() {
    }

    static void due(String call, long got, long want) {
        if (got == want) {
            right++;
            return;
        }
        wrong++;
        if (wrong <= 40) {
            System.out.println(call + " answered " + got + ", due is " + want);
        }
    }

    static void due(String call, boolean got, boolean want) {
        due(call, got ? 1 : 0, want ? 1 : 0);
    }

    /** What count answers, from 0 on. */
    static void counts(String when, ForgetHeirs x, int... counts) {
        for (int what = 0; what < counts.length; what++) {
            due("count " + what + " " + when, x.count(what), counts[what]);
        }
    }

    static int wrongs() {
        return wrong;
    }

    static void end(String test) {
        System.out.println(test + ": " + right + " answers as due, " + wrong + " not");
        if (wrong != 0) {
            System.exit(1);
        }
    }

    /** Puts a text on an empty TAPE, and nothing behind it. */
    static void type(ForgetHeirs x, String text) {
        for (int i = 0; i < text.length(); i += 20) {
            x.feed(four(text, i), four(text, i + 4), four(text, i + 8), four(text, i + 12), four(text, i + 16));
        }
        x.end(text.length());
    }

    private static int four(String text, int from) {
        int number = 0;
        for (int i = from; i < from + 4; i++) {
            number = number << 8 | (i < text.length() ? text.charAt(i) & 255 : 0);
        }
        return number;
    }

    static int house(ForgetHeirs x, String text) {
        type(x, text);
        return x.house();
    }

    static int rule(ForgetHeirs x, String text) {
        type(x, text);
        return x.rule();
    }

    /** A new object with a HOUSE. */
    static ForgetHeirs with(String text) {
        ForgetHeirs x = new ForgetHeirs();
        int heirs = house(x, text);
        if (heirs < 0) {
            due("house of " + text, heirs, 0);
        }
        return x;
    }

    static int fault(int place, int what) {
        return -2 - (1 + 8 * place + what);
    }
}
