/** Texts told to new objects, and what is due: a HOUSE, a RULE, or a FAULT where a ^ stands ahead of the place. */
final class Told {
    /** The FAULTS' own numbers. */
    static final int CAN_NOT_STAND = 0;
    static final int NUMBER = 1;
    static final int TOO_DEEP = 2;
    static final int VALUE_TOO_MANY = 3;
    static final int CLAUSE_TOO_MANY = 4;

    private Told() {
    }

    static void isHouse(String text, int heirs) {
        Due.due("house " + text, Due.house(new ForgetHeirs(), text), heirs);
    }

    static void isRule(String text) {
        Due.due("rule " + text, Due.rule(new ForgetHeirs(), text), 0);
    }

    static void noHouse(String marked, int what) {
        String text = unmarked(marked);
        Due.due("house " + marked, Due.house(new ForgetHeirs(), text), Due.fault(marked.indexOf('^'), what));
    }

    static void noRule(String marked, int what) {
        String text = unmarked(marked);
        Due.due("rule " + marked, Due.rule(new ForgetHeirs(), text), Due.fault(marked.indexOf('^'), what));
    }

    private static String unmarked(String marked) {
        int place = marked.indexOf('^');
        return marked.substring(0, place) + marked.substring(place + 1);
    }

    /** A new object with a HOUSE that goes by a RULE. */
    static ForgetHeirs by(String house, String rule) {
        ForgetHeirs x = Due.with(house);
        Due.due("rule " + rule, Due.rule(x, rule), 0);
        Due.due("force 0", x.force(0), ForgetHeirs.NONE);
        return x;
    }
}
