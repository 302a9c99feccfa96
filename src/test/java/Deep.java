import java.util.function.Supplier;
import java.util.function.ToLongFunction;

/** All that can be seen of an object, in one text: so that a test can tell that nothing happened. */
final class Deep {
    private Deep() {
    }

    /** What can be asked of how it is; nothing changes by it. */
    static String face(ForgetHeirs x) {
        StringBuilder face = new StringBuilder();
        for (int what = 0; what < 12; what++) {
            say(face, x.count(what));
        }
        for (int heir = 0; heir < x.count(1); heir++) {
            for (int what = 0; what < 6; what++) {
                say(face, x.heir(heir, what));
            }
            for (int thing = 0; thing < x.count(0); thing++) {
                say(face, x.knows(heir, thing, 0));
                say(face, x.knows(heir, thing, 1));
            }
        }
        for (int thing = 0; thing < x.count(0); thing++) {
            for (int what = 0; what < 7; what++) {
                say(face, x.thing(thing, what));
            }
            say(face, x.strike(thing));
        }
        return say(face, x.drawn(1, 2, 1)).append('\n').toString();
    }

    private static StringBuilder say(StringBuilder face, int answer) {
        return face.append(answer).append(' ');
    }

    /** What stands behind it as well: the RULES, what can be UNDONE, the IMAGES, the TAPE; it is used up by that. */
    static String all(ForgetHeirs x) {
        StringBuilder all = new StringBuilder(face(x));
        int inForce = x.count(4);
        for (int rule = 0; rule < x.count(3); rule++) {
            x.force(rule);
            all.append(face(x));
        }
        x.force(inForce);
        while (x.undo() >= 0) {
            all.append(face(x));
        }
        for (int k = 0; k < 4; k++) {
            say(all, x.back(k));
            all.append(face(x));
        }
        return say(all, x.house()).append(face(x)).toString();
    }

    /** A call answers as is due, and nothing happens. */
    static void refuses(String call, Supplier<ForgetHeirs> made, ToLongFunction<ForgetHeirs> called, long answer) {
        ForgetHeirs x = made.get();
        Due.due(call, called.applyAsLong(x), answer);
        Due.due("nothing happened by " + call, all(x).equals(all(made.get())), true);
    }
}
