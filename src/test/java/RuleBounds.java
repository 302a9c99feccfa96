/** The bounds of RULES. */
final class RuleBounds {
    private static final int NONE = ForgetHeirs.NONE;
    private static final String ONE_KNOWS = "house 1;thing 1 0 0;heir 0 0;knows 0 0 1 99";
    /** Of the 63 bits above the sign's, 62 are ahead of this one: 4611686018427387904. */
    private static final String HIGH = "65536 * 65536 * 32768 * 32768";
    /** All goes round here: -9223372036854775808. */
    private static final String LOWEST = "65536 * 65536 * 32768 * 65536";
    /** -8447044070709561616. */
    private static final String LOW = "99999 * 99999 * 99999 * 10000";

    private RuleBounds() {
    }

    static void test() {
        sixRules();
        clauses();
        digits();
        words();
        wordsOfAnHeir();
        wordsOfAThing();
        wordsOfAll();
        deep();
        sixtyValues();
        signs();
        byNothing();
        towardsZero();
        round();
        force();
    }

    private static void due(String call, long got, long want) {
        Due.due(call, got, want);
    }

    /** What is lost, in a YEAR by a RULE, of STRENGTH 99. */
    private static int lossBy(String rule) {
        ForgetHeirs x = Told.by(ONE_KNOWS, rule);
        x.year();
        return 99 - x.knows(0, 0, 1);
    }

    private static void holds(String test, boolean holds) {
        due("fade 5 if " + test, lossBy("fade 5 if " + test + ";fade 2"), holds ? 5 : 2);
    }

    private static void sixRules() {
        Doc.says(5, "The TAPE, which is empty then, is a RULE: its number; -2 - its FAULT; NONE, and nothing happens: "
            + "there are 6.");
        ForgetHeirs x = Due.with(ONE_KNOWS);
        for (int rule = 0; rule < 6; rule++) {
            due("RULES", x.count(3), rule);
            due("a RULE with a FAULT", Due.rule(x, "fade"), Due.fault(4, Told.CAN_NOT_STAND));
            due("the TAPE then", x.count(11), 0);
            due("rule " + rule, Due.rule(x, "fade " + (rule + 1)), rule);
            due("the TAPE then", x.count(11), 0);
        }
        due("RULES", x.count(3), 6);
        due("force 5", x.force(5), NONE);
        x.year();
        due("by RULE 5", x.knows(0, 0, 1), 93);
        due("force 0", x.force(0), 5);
        x.year();
        due("by RULE 0", x.knows(0, 0, 1), 92);
        String[] texts = {"", "fade 7", "fade", "house 3;heir 1 1"};
        for (String text : texts) {
            Deep.refuses("a seventh rule " + text, () -> withSixRules(text), ForgetHeirs::rule, NONE);
        }
        x = withSixRules("house 3;heir 1 1");
        due("a seventh rule", x.rule(), NONE);
        due("the TAPE is a HOUSE still", x.house(), 1);
    }

    private static ForgetHeirs withSixRules(String text) {
        ForgetHeirs x = Due.with(HouseBounds.FULL);
        for (int rule = 0; rule < 6; rule++) {
            Due.rule(x, "fade " + rule);
        }
        Due.type(x, text);
        return x;
    }

    private static void clauses() {
        Doc.says(Doc.TERMS, "12 CLAUSES at most: fade SUM [ if TEST ].");
        String eleven = "fade 1 if 1=2" + ";fade 1 if 1=2".repeat(10);
        due("one", lossBy("fade 3"), 3);
        due("the twelfth", lossBy(eleven + ";fade 7"), 7);
        Told.noRule(eleven + ";fade 7;^fade 8", Told.CLAUSE_TOO_MANY);
        Told.noRule(eleven + ";fade 7;  ^fade", Told.CLAUSE_TOO_MANY);
        Told.noRule(eleven + ";fade 7^,", Told.CAN_NOT_STAND);
        Told.noRule("^;fade 1", Told.CAN_NOT_STAND);
        Told.noRule("fade 1;^;fade 1", Told.CAN_NOT_STAND);
        Told.noRule("fade 1;^", Told.CAN_NOT_STAND);
        Told.noRule("fade 1;^if 1 = 1", Told.CAN_NOT_STAND);
        Told.noRule("fade 1 ^[if 1 = 1]", Told.CAN_NOT_STAND);
    }

    private static void digits() {
        Doc.says(Doc.TERMS, "VALUE: NUMBER (1 to 5 digits, as far as digits go on)");
        due("one digit", lossBy("fade 7"), 7);
        due("five digits", lossBy("fade 00017"), 17);
        due("the most", lossBy("fade 5 if 99999 = 99998 + 1"), 5);
        Told.noRule("fade ^100000", Told.NUMBER);
        Told.noRule("fade ^000007", Told.NUMBER);
        Told.noRule("fade ^4294967297", Told.NUMBER);
        Told.noRule("fade ^" + "9".repeat(395), Told.NUMBER);
        Told.noRule("fade 12345 ^6", Told.CAN_NOT_STAND);
        due("ASKS of five digits", Due.with("house 00020").count(6), 20);
        Told.noHouse("house ^000020", Told.NUMBER);
        Told.noHouse("house ^4294967297", Told.NUMBER);
    }

    private static void words() {
        Doc.says(Doc.TERMS, "WORD. WORDS (small letters, as far as these go on)");
        due("a WORD behind digits", lossBy("fade 7if 1=1"), 7);
        due("digits behind a WORD", lossBy("fade7"), 7);
        String[] words = {"heir", "thing", "as", "right", "strength", "age", "hates", "song", "burnt", "loss", "field",
            "year", "same", "known"};
        for (String word : words) {
            Told.isRule("fade " + word);
            Told.noRule("fade ^" + word + "s", Told.CAN_NOT_STAND);
            Told.noRule("fade ^" + word.substring(0, word.length() - 1), Told.CAN_NOT_STAND);
            Told.noRule("fade ^" + word.substring(1), Told.CAN_NOT_STAND);
            Told.noRule("fade ^z" + word, Told.CAN_NOT_STAND);
            Told.noRule("fade ^" + word + "z", Told.CAN_NOT_STAND);
            Told.noRule("fade ^" + word + "a", Told.CAN_NOT_STAND);
            Told.noRule("fade ^" + word.toUpperCase(), Told.CAN_NOT_STAND);
        }
        String[] others = {"fade", "if", "or", "and", "not", "house", "cousins", "knows", "x", "z", "a", "{", "`"};
        for (String other : others) {
            Told.noRule("fade ^" + other, Told.CAN_NOT_STAND);
            Told.noRule("fade 1 + ^" + other, Told.CAN_NOT_STAND);
        }
        Told.noRule("^fad 1", Told.CAN_NOT_STAND);
        Told.noRule("^fades 1", Told.CAN_NOT_STAND);
        Told.noRule("fade 1 ^ifnot 1 = 1", Told.CAN_NOT_STAND);
        Told.noRule("fade 1 if 1 = 1 ^andnot 1 = 1", Told.CAN_NOT_STAND);
        Told.noRule("fade age^A", Told.CAN_NOT_STAND);
        Told.noRule("^ade 1", Told.CAN_NOT_STAND);
        Told.noRule("fade 1 ^f 1 = 1", Told.CAN_NOT_STAND);
        Told.noRule("fade 1 if ^ot 1 = 1", Told.CAN_NOT_STAND);
        Told.noHouse("^houses 1", Told.CAN_NOT_STAND);
        Told.noHouse("^housez 1", Told.CAN_NOT_STAND);
        Told.noHouse("^ouse 1", Told.CAN_NOT_STAND);
        Told.noHouse("house 1;^thin 0 0 0", Told.CAN_NOT_STAND);
        Told.noHouse("house 1;^fade 1", Told.CAN_NOT_STAND);
    }

    /** HEIR 1 knows THING 2: a WORD is this, and nothing else. */
    private static void isWord(String word, int value, ForgetHeirs made) {
        Due.rule(made, "fade 99 if " + word + " = " + value);
        Due.rule(made, "fade 99 if not " + word + " = " + value);
        made.force(1);
        due(word + " is not but " + value, made.ahead(1, 1) & 4, 4);
        made.force(0);
        due(word + " is " + value, made.ahead(1, 1) & 4, 0);
    }

    /** Ahead of that THING two others, and of that HEIR another one, so that each number is of one alone. */
    private static ForgetHeirs known(String thing, String heir, String more) {
        return Due.with("house 1;thing 8 7 6;thing 7 5 3;thing " + thing + ";heir 33 3;heir " + heir + more);
    }

    private static void wordsOfAnHeir() {
        Doc.says(Doc.TERMS, "of an HEIR and a THING they know: heir, thing, as (as what), right (1 if that was so, else 0), "
            + "strength, age, hates (1, or 0),");
        isWord("heir", 1, known("1 1 1", "1 0", ";knows 1 2 1 99"));
        isWord("thing", 2, known("1 1 1", "1 0", ";knows 1 2 1 99"));
        isWord("as", 0, known("0 1 1", "1 0", ";knows 1 2 0 99;knows 0 2 1 9"));
        isWord("as", 9, known("9 1 1", "1 0", ";knows 1 2 9 99;knows 0 2 1 9"));
        isWord("right", 1, known("0 1 1", "1 0", ";knows 1 2 0 99;knows 0 2 1 9"));
        isWord("right", 0, known("4 1 1", "1 0", ";heir 0 0;knows 1 2 5 99;knows 2 2 5 99;knows 0 2 4 9"));
        isWord("strength", 1, known("1 1 1", "1 0", ";knows 1 2 1 1;knows 0 2 1 9;knows 1 0 8 3"));
        isWord("strength", 99, known("1 1 1", "1 0", ";knows 1 2 1 99;knows 0 2 1 9;knows 1 0 8 3"));
        isWord("age", 0, known("1 1 1", "0 5", ";knows 1 2 1 99"));
        isWord("age", 99, known("1 1 1", "99 5", ";heir 7 7;knows 1 2 1 99"));
        isWord("hates", 0, known("1 1 1", "2 0", ";heir 2 2;hates 0;hates 2;knows 1 2 1 99"));
        isWord("hates", 1, known("1 1 1", "2 0", ";heir 2 2;hates 1;knows 1 2 1 99"));
        // The first and the seventh of both.
        ForgetHeirs x = Told.by(HouseBounds.FULL, "fade 99 if not [heir = 6 and thing = 6]");
        x.year();
        due("HEIR 6 and THING 6", x.heir(6, 4), 64);
        due("another HEIR", x.heir(5, 4), 0);
        x = Told.by("house 1;thing 1 0 0;heir 0 0;knows 0 0 1 9", "fade heir + thing");
        x.year();
        due("HEIR 0 and THING 0", x.knows(0, 0, 1), 9);
    }

    private static void wordsOfAThing() {
        Doc.says(Doc.TERMS, "song (1, or 0), burnt (1, or 0), loss (its FADE), field, year,");
        isWord("song", 0, known("1 1 1", "2 0", ";song 0;song 1;knows 1 2 1 99"));
        isWord("song", 1, known("1 1 1", "2 0", ";song 2;knows 1 2 1 99"));
        isWord("loss", 0, known("1 0 1", "2 0", ";knows 1 2 1 99"));
        isWord("loss", 20, known("1 20 1", "99 0", ";song 2;hates 1;knows 1 2 1 99"));
        isWord("field", 0, known("1 2 0", "2 0", ";knows 1 2 1 99"));
        isWord("field", 99, known("1 2 99", "2 0", ";knows 1 2 1 99"));
        ForgetHeirs x = known("1 1 1", "2 0", ";knows 1 2 1 99");
        x.burn(0);
        x.burn(1);
        isWord("burnt", 0, x);
        x = known("1 1 1", "2 0", ";knows 1 2 1 99");
        x.burn(2);
        isWord("burnt", 1, x);
        isWord("year", 0, known("1 2 0", "2 0", ";knows 1 2 1 99"));
        x = known("1 0 0", "2 0", ";knows 1 2 1 99");
        x.year();
        x.year();
        isWord("year", 2, x);
    }

    private static void wordsOfAll() {
        Doc.says(Doc.TERMS, "same (other HEIRS who know it as the same), known (THINGS they know).");
        String five = ";heir 0 0".repeat(5);
        isWord("same", 0, known("4 1 1", "1 0", ";knows 1 2 4 99"));
        isWord("same", 0, known("4 1 1", "1 0", five + ";knows 1 2 4 99;knows 0 2 5 99;knows 2 2 3 99;knows 3 1 4 9"));
        isWord("same", 0, known("0 1 1", "1 0", five + ";knows 1 2 0 99;knows 0 1 0 99"));
        isWord("same", 1, known("0 1 1", "1 0", five + ";knows 1 2 0 99;knows 0 2 0 99"));
        isWord("same", 6, known("4 1 1", "1 0", five + ";knows 1 2 5 99;knows 0 2 5 1;knows 2 2 5 1;knows 3 2 5 1"
            + ";knows 4 2 5 1;knows 5 2 5 1;knows 6 2 5 1"));
        isWord("known", 1, known("4 1 1", "1 0", ";knows 1 2 4 99;knows 0 1 1 9"));
        isWord("known", 7, known("4 1 1", "1 0", ";thing 1 1 1".repeat(4) + ";knows 1 2 4 99;knows 1 0 4 1;knows 1 1 4 1"
            + ";knows 1 3 4 1;knows 1 4 4 1;knows 1 5 4 1;knows 1 6 4 1"));
    }

    private static void deep() {
        Doc.says(Doc.TERMS, "[ and not lie within one another 10 deep at most;");
        for (int signs = 0; signs <= 10; signs++) {
            int nots = 10 - signs;
            String open = "[".repeat(signs) + "not ".repeat(nots);
            String close = "]".repeat(signs);
            holds(open + "1 = 1" + close, nots % 2 == 0);
            Told.noRule("fade 5 if " + open + "^not 1 = 1" + close, Told.TOO_DEEP);
            Told.noRule("fade 5 if " + open + "^[1 = 1]" + close, Told.TOO_DEEP);
            Told.noRule("fade 5 if " + "not ".repeat(nots) + "[".repeat(signs) + "  ^[", Told.TOO_DEEP);
        }
        // Behind what is closed, and in the next FACT, it is as deep as ahead.
        String nine = "fade 1 if " + "[".repeat(9);
        String ends = "]".repeat(9);
        Told.isRule(nine + "[1=1] or [1=1] and not 1=1" + ends);
        Told.noRule(nine + "[1=1] or [^[1=1]]" + ends, Told.TOO_DEEP);
        Told.noRule(nine + "not 1=1 and not ^not 1=1" + ends, Told.TOO_DEEP);
        Told.isRule(nine + "[1=1]" + ends + ";" + nine + "[1=1]" + ends);
    }

    private static void sixtyValues() {
        Doc.says(Doc.TERMS, "at most 60 VALUES (of SUMS) and FACTS made of a SIGN, together.");
        String sixty = "fade 1" + "+1".repeat(59);
        due("60 VALUES", lossBy(sixty), 60);
        Told.noRule(sixty + "+^1", Told.VALUE_TOO_MANY);
        Told.noRule(sixty + "*^0", Told.VALUE_TOO_MANY);
        // A FACT counts one, besides its VALUES; not and [ count nothing.
        String nineteen = "1=1" + " and 1=1".repeat(18);
        due("2 and 19 times 3", lossBy("fade 1+1 if " + nineteen), 2);
        due("3 and 19 times 3", lossBy("fade 1+1+1 if not not [" + nineteen + "]"), 3);
        Told.noRule("fade 1+1+1+1 if 1=1" + " and 1=1".repeat(17) + " and 1=^1", Told.VALUE_TOO_MANY);
        Told.noRule("fade 1+1 if " + nineteen + " and 1^=1", Told.VALUE_TOO_MANY);
        Told.noRule("fade 1+1 if " + nineteen + " or 1 ^>= 1", Told.VALUE_TOO_MANY);
        Told.noRule("fade 1+1+1 if " + nineteen + " and ^1=1", Told.VALUE_TOO_MANY);
        // All CLAUSES together.
        String thirty = "fade 1" + "+1".repeat(29);
        due("twice 30", lossBy(thirty + ";" + thirty), 30);
        Told.noRule(thirty + ";" + thirty + ";fade ^1", Told.VALUE_TOO_MANY);
        // Each RULE its own, whatever was told ahead of it.
        ForgetHeirs x = Due.with(ONE_KNOWS);
        for (int rule = 0; rule < 6; rule++) {
            due("61 VALUES", Due.rule(x, sixty + "+1"), Due.fault(sixty.length() + 1, Told.VALUE_TOO_MANY));
            due("60 VALUES in RULE " + rule, Due.rule(x, sixty), rule);
        }
        for (int rule = 0; rule < 6; rule++) {
            x.force(rule);
            due("by 60 VALUES", x.strike(0), 1);
        }
    }

    private static void signs() {
        Doc.says(Doc.TERMS, "TEST: PART { or PART }. PART: FACT { and FACT }. FACT: not FACT | [ TEST ] (these brackets "
            + "are signs) | SUM SIGN SUM, SIGN one of < <= = >= >. SUM: TERM { (+ or -) TERM }. "
            + "TERM: VALUE { (* or / or %) VALUE }.");
        String[] signs = {"<", "<=", "=", ">=", ">"};
        String[] lefts = {"4", "5", "6"};
        boolean[][] holds = {{true, true, false, false, false}, {false, true, true, true, false},
            {false, false, false, true, true}};
        for (int i = 0; i < lefts.length; i++) {
            for (int j = 0; j < signs.length; j++) {
                holds(lefts[i] + " " + signs[j] + " 5", holds[i][j]);
            }
        }
        String[] others = {"==", "=<", "=>", "<>", "<<", ">>", "!", ":", "&"};
        for (String other : others) {
            boolean second = "<=>".indexOf(other.charAt(0)) >= 0;
            Told.noRule("fade 1 if 1 " + (second ? other.charAt(0) + "^" + other.charAt(1) : "^" + other) + " 1",
                Told.CAN_NOT_STAND);
        }
        holds("not 1 = 2 or 1 = 1", true);
        holds("not [1 = 2 or 1 = 1]", false);
        holds("not 1 = 1 and 1 = 2", false);
        holds("not [1 = 1 and 1 = 2]", true);
        holds("1 = 1 or 1 = 1 and 1 = 2", true);
        holds("[1 = 1 or 1 = 1] and 1 = 2", false);
        // Each SIGN within each other FACT.
        for (int i = 0; i < signs.length; i++) {
            for (int j = 0; j < signs.length; j++) {
                String left = "4 " + signs[i] + " 5";
                String right = "6 " + signs[j] + " 5";
                holds(left + " and " + right, holds[0][i] && holds[2][j]);
                holds(left + " or " + right, holds[0][i] || holds[2][j]);
                holds("not " + left + " and not " + right, !holds[0][i] && !holds[2][j]);
                holds("not [" + left + " or not [" + right + "]]", !holds[0][i] && holds[2][j]);
            }
        }
        holds("1 + 2 * 3 = 7", true);
        holds("9 - 2 * 3 = 3", true);
        holds("2 * 3 - 4 * 1 = 2", true);
        holds("9 - 8 / 4 = 7", true);
        holds("9 + 8 / 4 = 11", true);
        holds("9 - 8 % 5 = 6", true);
        holds("9 + 8 % 5 = 12", true);
        holds("9 - 5 - 3 = 1", true);
        holds("9 - 5 + 3 = 7", true);
        holds("20 / 3 / 2 = 3", true);
        holds("20 / 3 * 2 = 12", true);
        holds("17 % 10 % 4 = 3", true);
    }

    private static void byNothing() {
        Doc.says(Doc.TERMS, "% its rest, both 0 by 0;");
        due("7 / 0", lossBy("fade 3 + 7 / 0"), 3);
        due("7 % 0", lossBy("fade 3 + 7 % 0"), 3);
        due("0 / 0", lossBy("fade 3 + 0 / 0"), 3);
        due("0 % 0", lossBy("fade 3 + 0 % 0"), 3);
        due("0 / 7", lossBy("fade 3 + 0 / 7"), 3);
        due("0 % 7", lossBy("fade 3 + 0 % 7"), 3);
        due("by a WORD that is 0", lossBy("fade 3 + 7 / loss + 7 % loss"), 3);
        due("7 / 1", lossBy("fade 3 + 7 / 1"), 10);
        due("7 % 1", lossBy("fade 3 + 7 % 1"), 3);
    }

    private static void towardsZero() {
        Doc.says(Doc.TERMS, "/ is towards 0,");
        due("7 / 2", lossBy("fade 7 / 2"), 3);
        due("8 / 3", lossBy("fade 8 / 3"), 2);
        due("2 / 3", lossBy("fade 2 / 3"), 0);
        due("7 % 4", lossBy("fade 7 % 4"), 3);
        // Below 0: -8.447.. thousand by a thousand is -8, and LOW by 7 leaves -5.
        due("below 0", lossBy("fade 20 + " + LOW + " / 99999 / 99999 / 99999 / 1000"), 12);
        due("its rest", lossBy("fade 20 + " + LOW + " % 7"), 15);
    }

    private static void round() {
        Doc.says(Doc.TERMS, "all goes round in 64 bits.");
        holds(HIGH + " > 0", true);
        holds(HIGH + " + " + HIGH + " < 0", true);
        holds(HIGH + " + " + HIGH + " = " + LOWEST, true);
        holds(LOWEST + " - 1 > 0", true);
        holds("0 - " + LOWEST + " = " + LOWEST, true);
        holds("65536 * 65536 * 65536 * 65536 = 0", true);
        holds("65536 * 65536 * 65536 * 32768 - 1 + 2 < 0", true);
        holds(LOW + " < 0", true);
        // Of 64 bits, and not of 32.
        holds("65536 * 65536 = 0", false);
        holds("65536 * 32768 > 0", true);
        holds("65536 * 65536 + 5 = 5", false);
        holds("46341 * 46341 < 0", false);
        holds("65536 * 65536 > 1", true);
    }

    private static void force() {
        Doc.says(6, "A RULE is IN FORCE (NONE: none): which was; -2, and nothing happens, if there is none such.");
        due("force none of none", new ForgetHeirs().force(NONE), NONE);
        int[] wrong = {0, 1, -2, Integer.MIN_VALUE, Integer.MAX_VALUE};
        for (int rule : wrong) {
            Deep.refuses("force " + rule + " of none", ForgetHeirs::new, x -> x.force(rule), -2);
        }
        int[] wrongOfOne = {1, 6, -2, Integer.MIN_VALUE, Integer.MAX_VALUE};
        for (int rule : wrongOfOne) {
            Deep.refuses("force " + rule + " of one", () -> Told.by(ONE_KNOWS, "fade 7"), x -> x.force(rule), -2);
        }
        int[] wrongOfSix = {6, -2};
        for (int rule : wrongOfSix) {
            Deep.refuses("force " + rule + " of six", () -> withSixRules("fade"), x -> x.force(rule), -2);
        }
        ForgetHeirs x = withSixRules("");
        int was = NONE;
        for (int rule = 5; rule >= NONE; rule--) {
            due("force " + rule, x.force(rule), was);
            due("IN FORCE", x.count(4), rule);
            was = rule;
        }
        due("force none again", x.force(NONE), NONE);
    }
}
