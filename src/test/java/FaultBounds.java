/** The bounds of FAULTS: which one of several, where, and what stays. */
final class FaultBounds {
    private static final String SEVEN_HEIRS = "house 1" + ";heir 0 0".repeat(7);
    private static final String FORTY = "house 1;thing 0 0 0" + ";song 0".repeat(38);
    private static final String SIXTY = "fade 1" + "+1".repeat(59);

    private FaultBounds() {
    }

    static void test() {
        firstAlongTheText();
        signsAndWords();
        ends();
        numbers();
        cousins();
        tooDeep();
        tooManyValues();
        tooManyClauses();
        leastOfOnePlace();
        houseStays();
        rulesStay();
    }

    private static void due(String call, long got, long want) {
        Due.due(call, got, want);
    }

    private static void firstAlongTheText() {
        Doc.says(Doc.TERMS, "FAULTS, the first along the text, 1 + 8 * its place and:");
        Doc.says(4, "-2 - its FAULT (the TAPE is empty then, too), and all else stays.");
        due("place 0, and 0", new ForgetHeirs().house(), -3);
        due("place 0, and 0", new ForgetHeirs().rule(), -3);
        due("place 6, and 1", Due.house(new ForgetHeirs(), "house 0"), -2 - (1 + 8 * 6 + 1));
        due("place 0, and 4", Due.house(new ForgetHeirs(), "song 0"), -7);
        due("place 400, and 0", Due.house(new ForgetHeirs(), "house" + " ".repeat(395)), -3203);
        due("place 400, and 0", Due.rule(new ForgetHeirs(), "fade" + " ".repeat(396)), -3203);
        due("place 399, and 0", Due.house(new ForgetHeirs(), "house 1" + " ".repeat(392) + "x"), -3195);
        due("place 399, and 1", Due.house(new ForgetHeirs(), "house" + " ".repeat(394) + "0"), -3196);
        // What stands behind does not count, whatever it is.
        Told.noHouse("house ^0;house 1", Told.NUMBER);
        Told.noHouse("house ^0;thing 10 0 0;x", Told.NUMBER);
        Told.noHouse("house 1;thing ^10 21 100", Told.NUMBER);
        Told.noHouse("house 1;^house 0", Told.CLAUSE_TOO_MANY);
        Told.noHouse("house 1 ^x;song 0", Told.CAN_NOT_STAND);
        Told.noHouse("^song 0;x", Told.CLAUSE_TOO_MANY);
        Told.noRule("fade ^100000 x", Told.NUMBER);
        Told.noRule("fade ^x + 100000", Told.CAN_NOT_STAND);
        Told.noRule(SIXTY + "+^1+x", Told.VALUE_TOO_MANY);
        Told.noRule(SIXTY + "^x+1", Told.CAN_NOT_STAND);
        Told.noRule("fade 1 if " + "[".repeat(10) + "^[" + "x", Told.TOO_DEEP);
        Told.noRule("fade 1 if ^x" + "[".repeat(11), Told.CAN_NOT_STAND);
    }

    private static void signsAndWords() {
        Doc.says(Doc.TERMS, "0 a byte or WORD that can't stand there,");
        int[] bytes = {0, 1, 31, '"', '&', ',', ':', '@', 'A', 'Z', '^' + 1, '`', '{', 127, 128, 200, 255};
        for (int one : bytes) {
            char sign = (char) one;
            Told.noHouse("^" + sign, Told.CAN_NOT_STAND);
            Told.noHouse("house ^" + sign, Told.CAN_NOT_STAND);
            Told.noHouse("house 1;heir 0 0^" + sign, Told.CAN_NOT_STAND);
            Told.noRule("^" + sign, Told.CAN_NOT_STAND);
            Told.noRule("fade ^" + sign, Told.CAN_NOT_STAND);
            Told.noRule("fade 1 if 1 ^" + sign, Told.CAN_NOT_STAND);
        }
        String[] words = {"house", "thing", "song", "heir", "hates", "cousins", "knows", "year", "not", "x"};
        for (String word : words) {
            Told.noHouse("house ^" + word, Told.CAN_NOT_STAND);
            Told.noHouse("house 1 ^" + word, Told.CAN_NOT_STAND);
            Told.noRule("fade 1 ^" + word, Told.CAN_NOT_STAND);
            Told.noRule("fade 1 if 1 ^" + word, Told.CAN_NOT_STAND);
        }
        // A NUMBER for a SIGN, and SIGNS for others.
        String[] signs = {"<", "<=", "=", ">=", ">"};
        for (String sign : signs) {
            Told.noHouse("^" + sign, Told.CAN_NOT_STAND);
            Told.noHouse("house ^" + sign + " 1", Told.CAN_NOT_STAND);
            Told.noHouse("house 1 ^" + sign, Told.CAN_NOT_STAND);
            Told.noRule("^" + sign + " 1", Told.CAN_NOT_STAND);
            Told.noRule("fade ^" + sign + " 1", Told.CAN_NOT_STAND);
            Told.noRule("fade 1 ^" + sign + " 1", Told.CAN_NOT_STAND);
            Told.noRule("fade 1 if ^" + sign + " 1", Told.CAN_NOT_STAND);
            Told.noRule("fade 1 if 1 " + sign + " ^" + ";", Told.CAN_NOT_STAND);
        }
        Told.noRule("fade 1 if 1 ^5 1", Told.CAN_NOT_STAND);
        Told.noRule("fade 1 if 1 ^age 1", Told.CAN_NOT_STAND);
        Told.noRule("fade ^not 1", Told.CAN_NOT_STAND);
        Told.noRule("fade ^[1]", Told.CAN_NOT_STAND);
        Told.noRule("fade 1 if 1 = ^not 1", Told.CAN_NOT_STAND);
        Told.noRule("fade 1 if 1 = ^[1", Told.CAN_NOT_STAND);
        Told.noRule("fade 1 if [1 ^] = 1", Told.CAN_NOT_STAND);
        Told.noRule("fade 1 if year = 1^]", Told.CAN_NOT_STAND);
        Told.noRule("fade 1 if [[year = 1]^;fade 1", Told.CAN_NOT_STAND);
        Told.noRule("fade 1 if 1 = 1 ^= 1", Told.CAN_NOT_STAND);
    }

    private static void ends() {
        Doc.says(Doc.TERMS, "or the end (behind the last byte);");
        String[] houses = {"", "   ", "house", "house ", "house   ", "house 1;", "house 1;  ", "house 1;thing",
            "house 1;thing 0", "house 1;thing 0 0", "house 1;thing 0 0  ", "house 1;song", "house 1;heir 0",
            "house 1;hates", "house 1;cousins", "house 1;heir 0 0;cousins 0 ", "house 1;knows",
            "house 1;thing 0 0 0;heir 0 0;knows 0 0 0 "};
        for (String house : houses) {
            Told.noHouse(house + "^", Told.CAN_NOT_STAND);
        }
        String[] rules = {"", " ", "fade", "fade ", "fade 1+", "fade 1 * ", "fade 1 if", "fade 1 if ", "fade 1 if not",
            "fade 1 if [", "fade 1 if 1", "fade 1 if 1  ", "fade 1 if 1 <", "fade 1 if 1 <=  ", "fade 1 if 1 = 1 and",
            "fade 1 if 1 = 1 or ", "fade 1 if [1 = 1", "fade 1 if [1 = 1 ", "fade 1;", "fade 1;  "};
        for (String rule : rules) {
            Told.noRule(rule + "^", Told.CAN_NOT_STAND);
        }
        Told.noRule("fade 1 if 1" + " ".repeat(388) + "<^", Told.CAN_NOT_STAND);
        Told.noRule("fade 1 if 1" + " ".repeat(388) + ">^", Told.CAN_NOT_STAND);
        // The end is the TAPE's, and not that of what was on it ahead.
        ForgetHeirs x = new ForgetHeirs();
        Due.type(x, "house 1;heir 0 0");
        x.end(12);
        due("house cut short", x.house(), Due.fault(12, Told.CAN_NOT_STAND));
    }

    private static void numbers() {
        Doc.says(Doc.TERMS, "1 a NUMBER of more digits, or not as told");
        Told.noHouse("house ^000001", Told.NUMBER);
        Told.noHouse("house   ^0", Told.NUMBER);
        Told.noHouse("house ^99999", Told.NUMBER);
        Told.noHouse("house 1;thing 0 0 ^000000", Told.NUMBER);
        Told.noHouse("house 1;thing 0 0 0;song ^000000", Told.NUMBER);
        Told.noHouse("house 1;heir ^000000 0", Told.NUMBER);
        Told.noHouse("house 1;heir 0 ^000100", Told.NUMBER);
        Told.noHouse("house 1;heir 0 0;hates ^000000", Told.NUMBER);
        Told.noHouse("house 1;thing 0 0 0;heir 0 0;knows 0 0 0 ^000001", Told.NUMBER);
        Told.noRule("fade 1 if 1 = ^123456", Told.NUMBER);
        Told.noRule("fade 1 if ^123456 = 1", Told.NUMBER);
        Told.noRule("fade ^123456;x", Told.NUMBER);
    }

    private static void cousins() {
        Doc.says(Doc.TERMS, "(the second one of cousins, if it is the first, or if they are already, at it)");
        for (int i = 0; i < 7; i++) {
            Told.noHouse(SEVEN_HEIRS + ";cousins " + i + "  ^" + i, Told.NUMBER);
        }
        Told.noHouse(SEVEN_HEIRS + ";cousins 0 1;cousins 0 ^1;x", Told.NUMBER);
        Told.noHouse(SEVEN_HEIRS + ";cousins 0 1;cousins 1 ^0", Told.NUMBER);
        Told.noHouse(SEVEN_HEIRS + ";cousins 5 6;cousins 6  ^5", Told.NUMBER);
        Told.noHouse(SEVEN_HEIRS + ";cousins 0 ^00000000", Told.NUMBER);
        Told.noHouse(SEVEN_HEIRS + ";cousins ^7 7", Told.NUMBER);
        Told.isHouse(SEVEN_HEIRS + ";cousins 0 1;cousins 0 2;cousins 2 1", 7);
    }

    private static void tooDeep() {
        Doc.says(Doc.TERMS, "2 too deep (at the sign that opens, or the word not);");
        String ten = "fade 1 if " + "[not ".repeat(5);
        Told.isRule(ten + "1=1" + "]".repeat(5));
        Told.noRule(ten + " ^[ 1 = 1 ]", Told.TOO_DEEP);
        Told.noRule(ten + " ^not 1 = 1", Told.TOO_DEEP);
        Told.noRule(ten + "^nota 1 = 1", Told.CAN_NOT_STAND);
        Told.noRule(ten + "^]", Told.CAN_NOT_STAND);
        // What not says ends with its FACT: behind it a [ is the tenth again.
        Told.isRule(ten + "1=1 and [1=1]" + "]".repeat(5));
        Told.noRule(ten + "1=1 and [^[1=1]]", Told.TOO_DEEP);
        Told.noRule("fade 1 if " + "[".repeat(10) + "1=1 and  ^[", Told.TOO_DEEP);
        Told.noRule("fade 1 if " + "[".repeat(10) + "1=1 or  ^not", Told.TOO_DEEP);
    }

    private static void tooManyValues() {
        Doc.says(Doc.TERMS, "3 one VALUE or FACT too many (at its first byte; of a FACT at its SIGN);");
        Told.noRule(SIXTY + " +  ^12345", Told.VALUE_TOO_MANY);
        Told.noRule(SIXTY + "+^strength", Told.VALUE_TOO_MANY);
        Told.noRule(SIXTY + " if ^1=1", Told.VALUE_TOO_MANY);
        Told.noRule(SIXTY + ";fade ^1", Told.VALUE_TOO_MANY);
        String[] signs = {"<", "<=", "=", ">=", ">"};
        for (String sign : signs) {
            Told.noRule("fade 1" + "+1".repeat(58) + " if 1  ^" + sign + " 1", Told.VALUE_TOO_MANY);
            Told.noRule("fade 1" + "+1".repeat(57) + " if 1 " + sign + " ^1", Told.VALUE_TOO_MANY);
            Told.isRule("fade 1" + "+1".repeat(56) + " if 1 " + sign + " 1");
        }
    }

    private static void tooManyClauses() {
        Doc.says(Doc.TERMS, "4 one CLAUSE too many, a second house, another CLAUSE ahead of it, an eighth THING or HEIR, "
            + "an 11th twos of COUSINS (at its first byte).");
        Told.noHouse(FORTY + ";  ^song 0", Told.CLAUSE_TOO_MANY);
        Told.noHouse(FORTY + ";^knows", Told.CLAUSE_TOO_MANY);
        Told.noHouse(FORTY + ";^house", Told.CLAUSE_TOO_MANY);
        Told.noHouse("house 1; ^house 99", Told.CLAUSE_TOO_MANY);
        String[] others = {"thing 0 0 0", "song 0", "heir 0 0", "hates 0", "cousins 0 1", "knows 0 0 0 1", "thing"};
        for (String other : others) {
            Told.noHouse(" ^" + other + ";house 1", Told.CLAUSE_TOO_MANY);
            Told.noHouse("^" + other, Told.CLAUSE_TOO_MANY);
        }
        Told.noHouse("house 1" + ";thing 0 0 0".repeat(7) + "; ^thing 99", Told.CLAUSE_TOO_MANY);
        Told.noHouse(SEVEN_HEIRS + "; ^heir 999", Told.CLAUSE_TOO_MANY);
        String ten = SEVEN_HEIRS + ";cousins 0 1;cousins 0 2;cousins 0 3;cousins 0 4;cousins 0 5;cousins 0 6"
            + ";cousins 1 2;cousins 1 3;cousins 1 4;cousins 1 5";
        Told.isHouse(ten, 7);
        Told.noHouse(ten + "; ^cousins 1 6", Told.CLAUSE_TOO_MANY);
        Told.noHouse(ten + ";^cousins 0 1", Told.CLAUSE_TOO_MANY);
        Told.isHouse(ten + ";hates 6", 7);
        Told.noRule("fade 1" + ";fade 1".repeat(11) + "; ^fade x", Told.CLAUSE_TOO_MANY);
    }

    private static void leastOfOnePlace() {
        Doc.says(Doc.TERMS, "Of one place the least.");
        // 0 ahead of 1, of 3 and of 4; 1 ahead of 3.
        Told.noHouse("house 1 ^123456", Told.CAN_NOT_STAND);
        Told.noHouse("house 1;^123456", Told.CAN_NOT_STAND);
        Told.noRule("fade 1 ^123456", Told.CAN_NOT_STAND);
        Told.noRule("^123456", Told.CAN_NOT_STAND);
        Told.noHouse(FORTY + ";^sing", Told.CAN_NOT_STAND);
        Told.noHouse(FORTY + ";^", Told.CAN_NOT_STAND);
        Told.noHouse(FORTY + ";^7", Told.CAN_NOT_STAND);
        Told.noHouse("^year 1;house 1", Told.CAN_NOT_STAND);
        Told.noRule("fade 1" + ";fade 1".repeat(11) + ";^fades 1", Told.CAN_NOT_STAND);
        Told.noRule("fade 1" + ";fade 1".repeat(11) + ";^", Told.CAN_NOT_STAND);
        Told.noRule(SIXTY + "+^x", Told.CAN_NOT_STAND);
        Told.noRule(SIXTY + "+^", Told.CAN_NOT_STAND);
        Told.noRule(SIXTY + "+^[", Told.CAN_NOT_STAND);
        Told.noRule("fade 1" + "+1".repeat(58) + " if 1 ^! 1", Told.CAN_NOT_STAND);
        Told.noRule("fade 1" + "+1".repeat(58) + " if 1^", Told.CAN_NOT_STAND);
        Told.noRule(SIXTY + "+^123456", Told.NUMBER);
    }

    /** Much of all that there may be, and a text on the TAPE. */
    private static ForgetHeirs rich(String text) {
        ForgetHeirs x = CallBounds.rich();
        x.end(0);
        Due.type(x, text);
        return x;
    }

    private static void houseStays() {
        Doc.says(4, "-2 - its FAULT (the TAPE is empty then, too), and all else stays.");
        String[] marked = {"^", "house ^0", "house 1;^house 1", "house 5;thing 1 2 3;heir 4 5;knows 0 0 1 ^0",
            "house 5;thing 1 2 3;song 0;heir 4 5;hates 0;heir 5 6;cousins 0 1^,", "house 7;heir 9 9;^"};
        int[] faults = {Told.CAN_NOT_STAND, Told.NUMBER, Told.CLAUSE_TOO_MANY, Told.NUMBER, Told.CAN_NOT_STAND,
            Told.CAN_NOT_STAND};
        for (int i = 0; i < marked.length; i++) {
            ForgetHeirs x = rich(marked[i].replace("^", ""));
            due("a faulty house " + marked[i], x.house(), Due.fault(marked[i].indexOf('^'), faults[i]));
            stays(x, marked[i]);
        }
    }

    private static void stays(ForgetHeirs x, String marked) {
        due("the TAPE behind " + marked, x.count(11), 0);
        Due.due("all else behind " + marked, Deep.all(x).equals(Deep.all(rich(""))), true);
    }

    private static void rulesStay() {
        Doc.says(5, "-2 - its FAULT;");
        String[] marked = {"^", "fade 1 if^", "fade 1;fade ^x", "fade 1 if 1 = 1 ^]"};
        for (String mark : marked) {
            ForgetHeirs x = rich(mark.replace("^", ""));
            due("a faulty rule " + mark, x.rule(), Due.fault(mark.indexOf('^'), Told.CAN_NOT_STAND));
            stays(x, mark);
        }
    }
}
