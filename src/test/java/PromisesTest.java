/** Promise by promise: ordinary calls, edges and wrong ones, with answers that were reckoned by hand. */
final class PromisesTest {
    private static final int NONE = ForgetHeirs.NONE;
    /**
     * THING 0 is a field of 7, HEIRS 1 and 2 agree on a lie about it; THING 1 is a song that HEIR 2 has wrong;
     * THING 2 never fades of itself. HEIR 2 hates.
     */
    private static final String FAMILY = "house 3;thing 4 10 7;thing 2 6 5;thing 9 0 3;song 1;"
        + "heir 60 50;heir 20 0;heir 40 10;hates 2;cousins 0 1;cousins 1 2;"
        + "knows 0 0 4 50;knows 0 1 2 20;knows 1 0 3 30;knows 2 0 3 9;knows 2 1 7 40;knows 1 2 9 5";
    private static final String STAR = "house 1;thing 1 0 0" + ";heir 0 0".repeat(7)
        + ";cousins 0 1;cousins 2 0;cousins 0 3;cousins 4 0;cousins 0 5;cousins 2 6";

    private PromisesTest() {
    }

    private static void due(String call, long got, long want) {
        Due.due(call, got, want);
    }

    public static void main(String[] args) {
        aNewObject();
        feedAndEnd();
        houseAndRule();
        force();
        heirThingKnows();
        year();
        yearsLosses();
        rulesWords();
        rulesSums();
        rulesTests();
        rulesAskAheadOfYear();
        tell();
        tellSpreads();
        prompt();
        ask();
        burn();
        undo();
        ahead();
        strikeAndCost();
        inherits();
        longestAndFields();
        falls();
        examine();
        likeliest();
        parts();
        waysAndTaught();
        prompts();
        seedAndDrawn();
        count();
        imageAndBack();
        Due.end("PromisesTest");
    }

    // Promise 1, and what all others answer without a HOUSE.
    private static void aNewObject() {
        ForgetHeirs x = new ForgetHeirs();
        int[] counts = {0, 0, 0, 0, NONE, 0, 0, 0, 0, 0, 0, 0, NONE};
        for (int what = 0; what < counts.length; what++) {
            due("new count " + what, x.count(what), counts[what]);
        }
        due("new heir", x.heir(0, 0), NONE);
        due("new thing", x.thing(0, 0), -2);
        due("new knows", x.knows(0, 0, 0), -2);
        due("new year", x.year(), NONE);
        due("new tell", x.tell(0, 1, 0, true), NONE);
        due("new prompt", x.prompt(0, 0), NONE);
        due("new ask", x.ask(0, 0), NONE);
        Due.due("new burn", x.burn(0), false);
        due("new undo", x.undo(), NONE);
        due("new ahead", x.ahead(0, 0), NONE);
        due("new strike", x.strike(0), NONE);
        due("new inherits", x.inherits(0), NONE);
        due("new longest", x.longest(), NONE);
        due("new fields", x.fields(0), NONE);
        due("new falls", x.falls(0), NONE);
        due("new examine", x.examine(0), NONE);
        due("new likeliest", x.likeliest(0, 0), NONE);
        due("new parts", x.parts(0, 0), 0);
        due("new parts of one", x.parts(1, 0), NONE);
        due("new ways", x.ways(0), NONE);
        due("new taught", x.taught(0, 0), -4);
        due("new prompts", x.prompts(0, 0, 1), NONE);
        due("new cost", x.cost(0), -2000);
        due("new drawn", x.drawn(1, 1, 0), NONE);
        due("new force", x.force(0), -2);
        due("new force none", x.force(NONE), NONE);
        due("new back", x.back(0), NONE);
        due("the constant", NONE, -1);
    }

    // Promises 2 and 3.
    private static void feedAndEnd() {
        ForgetHeirs x = new ForgetHeirs();
        due("end 0 of none", x.end(0), 0);
        due("end 1 of none", x.end(1), NONE);
        for (int i = 1; i <= 20; i++) {
            due("feed " + i, x.feed(1, 2, 3, 4, 5), 20 * i);
        }
        due("feed too many", x.feed(1, 2, 3, 4, 5), NONE);
        due("the TAPE", x.count(11), 400);
        due("end 401", x.end(401), NONE);
        due("end -1", x.end(-1), NONE);
        due("the TAPE", x.count(11), 400);
        due("end 381", x.end(381), 381);
        due("feed too many", x.feed(1, 2, 3, 4, 5), NONE);
        due("end 380", x.end(380), 380);
        due("feed again", x.feed(1, 2, 3, 4, 5), 400);
        due("end 0", x.end(0), 0);
        // The highest byte first: "house 5;heir 1 2" and blanks.
        due("feed a text", x.feed(0x686f7573, 0x6520353b, 0x68656972, 0x20312032, 0x20202020), 20);
        due("its house", x.house(), 1);
        due("its DRINK", x.heir(0, 1), 2);
    }

    // Promises 4 and 5 (the FAULTS: FaultsTest).
    private static void houseAndRule() {
        ForgetHeirs x = Due.with(FAMILY);
        due("the TAPE", x.count(11), 0);
        due("HEIRS", x.count(1), 3);
        due("rule", Due.rule(x, "fade 1"), 0);
        due("rule", Due.rule(x, "fade 2"), 1);
        x.force(1);
        x.seed(77);
        x.image(2);
        x.year();
        x.burn(0);
        due("house again", Due.house(x, "house 2;heir 1 1"), 1);
        due("YEAR 0", x.count(5), 0);
        due("nothing to be UNDONE", x.undo(), NONE);
        due("THINGS", x.count(0), 0);
        due("ASKS", x.count(6), 2);
        due("RULE IN FORCE stays", x.count(4), 1);
        due("x stays", x.count(10), 77);
        due("IMAGES stay", x.back(2), 0);
        due("HEIRS of the IMAGE", x.count(1), 3);
        for (int i = 2; i < 6; i++) {
            due("rule " + i, Due.rule(x, "fade " + i), i);
        }
        Due.type(x, "fade 6");
        due("a seventh rule", x.rule(), NONE);
        due("the TAPE stays", x.count(11), 6);
        due("RULES", x.count(3), 6);
        // Of the same the last told.
        x = Due.with("house 1;thing 1 1 1;heir 1 1;knows 0 0 5 50;knows 0 0 6 7");
        due("as the last told", x.knows(0, 0, 0), 6);
        due("as strong as that", x.knows(0, 0, 1), 7);
    }

    // Promise 6.
    private static void force() {
        ForgetHeirs x = new ForgetHeirs();
        Due.rule(x, "fade 1");
        Due.rule(x, "fade 2");
        due("force 1", x.force(1), NONE);
        due("force 0", x.force(0), 1);
        due("force 2", x.force(2), -2);
        due("force -2", x.force(-2), -2);
        due("in force", x.count(4), 0);
        due("force none", x.force(NONE), 0);
        due("force none", x.force(NONE), NONE);
    }

    // Promises 7, 8 and 9.
    private static void heirThingKnows() {
        ForgetHeirs x = Due.with(FAMILY);
        int[][] heirs = {{60, 50, 0, 2, 3, 3}, {20, 0, 0, 5, 5, 5}, {40, 10, 1, 2, 3, 1}};
        for (int heir = 0; heir < 3; heir++) {
            for (int what = 0; what < 6; what++) {
                due("heir " + heir + " " + what, x.heir(heir, what), heirs[heir][what]);
            }
        }
        due("heir what 6", x.heir(0, 6), NONE);
        due("heir what -1", x.heir(0, -1), NONE);
        due("heir 3", x.heir(3, 0), NONE);
        due("heir -1", x.heir(-1, 0), NONE);
        int[][] things = {{4, 10, 7, 0, 0, NONE, 7}, {2, 6, 5, 1, 0, NONE, 1}, {9, 0, 3, 0, 0, NONE, 2}};
        for (int thing = 0; thing < 3; thing++) {
            for (int what = 0; what < 7; what++) {
                due("thing " + thing + " " + what, x.thing(thing, what), things[thing][what]);
            }
        }
        due("thing what 7", x.thing(0, 7), -2);
        due("thing what -1", x.thing(0, -1), -2);
        due("thing 3", x.thing(3, 0), -2);
        due("thing -1", x.thing(-1, 0), -2);
        due("knows as", x.knows(2, 1, 0), 7);
        due("knows strength", x.knows(2, 1, 1), 40);
        due("knows not", x.knows(2, 2, 0), NONE);
        due("knows not", x.knows(2, 2, 1), 0);
        due("knows what 2", x.knows(2, 1, 2), -2);
        due("knows what -1", x.knows(2, 1, -1), -2);
        due("knows heir 3", x.knows(3, 1, 0), -2);
        due("knows thing 3", x.knows(2, 3, 0), -2);
        due("knows -1", x.knows(-1, -1, 0), -2);
    }

    // Promise 10.
    private static void year() {
        ForgetHeirs x = Due.with(FAMILY);
        int[][] strengths = {{37, 14, 0, 19, 0, 4, 3, 38, 0}, {24, 8, 0, 8, 0, 3, 0, 36, 0},
            {11, 2, 0, 0, 0, 2, 0, 34, 0}, {0, 0, 0, 0, 0, 1, 0, 32, 0}, {0, 0, 0, 0, 0, 0, 0, 30, 0}};
        int[] struck = {0, 0, 0, 2, 1};
        for (int year = 0; year < 5; year++) {
            due("year " + year, x.year(), struck[year]);
            due("YEAR", x.count(5), year + 1);
            for (int i = 0; i < 9; i++) {
                due("strength in " + year + " of " + i, x.knows(i / 3, i % 3, 1), strengths[year][i]);
            }
            due("age", x.heir(0, 0), 61 + year);
        }
        due("STRUCK", x.thing(0, 5), 3);
        due("STRUCK", x.thing(1, 5), 3);
        due("STRUCK", x.thing(2, 5), 4);
        due("known no more", x.knows(0, 0, 0), NONE);
        due("known though STRUCK", x.heir(2, 4), 2);
        due("year without THINGS to strike", x.year(), 0);
        // A lie that two agree on again is HELD no more once the THING is STRUCK.
        due("tell of a STRUCK thing", x.tell(2, 1, 1, true), 2);
        due("nobody HOLDS what is STRUCK", x.thing(1, 6), 0);
        x = Due.with("house 1;thing 1 1 1;thing 1 1 1;heir 99 1;knows 0 1 2 50");
        due("what nobody HOLDS", x.year(), 2);
        due("AGE 99 at most", x.heir(0, 0), 99);
        x = Due.with("house 1");
        for (int i = 0; i < 999; i++) {
            due("year of nothing", x.year(), 0);
        }
        due("year 1000", x.year(), NONE);
        due("YEAR", x.count(5), 999);
        due("what can be UNDONE", x.count(9), 20);
    }

    // The FADE of promise 10, without a RULE.
    private static void yearsLosses() {
        String[] ages = {"0", "19", "20", "99"};
        int[] more = {0, 0, 1, 4};
        for (int i = 0; i < ages.length; i++) {
            for (int burnt = 0; burnt < 2; burnt++) {
                ForgetHeirs x = Due.with("house 1;thing 1 7 0;thing 1 7 0;song 1;heir " + ages[i] + " 0;heir "
                    + ages[i] + " 0;hates 1;knows 0 0 1 90;knows 0 1 1 90;knows 1 0 1 90;knows 1 1 1 90");
                if (burnt == 1) {
                    x.burn(0);
                    x.burn(1);
                }
                x.year();
                int plain = 7 * (1 + burnt) + more[i];
                int song = 7 * (1 + burnt) / 2 + more[i];
                due("loss", x.knows(0, 0, 1), 90 - plain);
                due("loss of a song", x.knows(0, 1, 1), 90 - song);
                due("loss of who hates", x.knows(1, 0, 1), 90 - plain / 2);
                due("loss of a song of who hates", x.knows(1, 1, 1), 90 - song / 2);
            }
        }
        // At 0 it is known no more.
        ForgetHeirs x = Due.with("house 1;thing 1 20 0;heir 0 0;knows 0 0 1 20");
        due("struck", x.year(), 1);
        due("strength", x.knows(0, 0, 0), NONE);
    }

    /** HEIR 2 of 4 knows THING 1 with STRENGTH 80 after a YEAR under a RULE. */
    private static int lossBy(String rule) {
        ForgetHeirs x = Due.with("house 1;thing 1 1 1;thing 5 3 44;song 1;heir 1 1;heir 2 2;heir 33 3;heir 4 4;"
            + "hates 2;knows 2 1 6 80;knows 0 1 6 9;knows 1 1 6 9;knows 3 1 5 9;knows 2 0 1 9;knows 0 0 1 1");
        due("rule " + rule, Due.rule(x, rule), 0);
        x.force(0);
        x.burn(1);
        x.year();
        return 80 - x.knows(2, 1, 1);
    }

    private static void rulesWords() {
        String[] words = {"heir", "thing", "as", "right", "strength - 50", "age", "hates", "song", "burnt", "loss",
            "field", "year", "same", "known"};
        int[] values = {2, 1, 6, 0, 30, 33, 1, 1, 1, 3, 44, 0, 2, 2};
        for (int i = 0; i < words.length; i++) {
            due("fade " + words[i], lossBy("fade " + words[i]), values[i]);
        }
        // YEAR goes on, of those asked as well.
        ForgetHeirs x = Due.with("house 1;thing 1 0 0;heir 0 0;knows 0 0 1 99");
        Due.rule(x, "fade 99 if year = 7;fade right");
        x.force(0);
        due("strike by YEAR", x.strike(0), 7);
        x.year();
        due("strength", x.knows(0, 0, 1), 98);
        due("strike by YEAR", x.strike(0), 7);
    }

    private static void rulesSums() {
        String[] sums = {"7 - 2 - 1", "2 + 3 * 4", "20 / 3 / 2", "17 % 10 % 4", "2 * 7 / 3", "9 - 5 / 2 + 4",
            "7 / 0 + 3", "7 % 0 + 3", "1 + 0 * 9", "9 - 7 % 4 - 2", "00012", "2*3+4*5-1"};
        int[] want = {4, 14, 3, 3, 4, 11, 3, 3, 1, 4, 12, 25};
        for (int i = 0; i < sums.length; i++) {
            due("fade " + sums[i], lossBy("fade " + sums[i]), want[i]);
        }
        // Held to 0 to 99.
        due("a loss below 0", lossBy("fade 0 - 5"), 0);
        due("a loss above 99", lossBy("fade 99999 * 99999"), 80);
        // In 64 bits round to -8447044070709561616; / is towards 0, and % its rest.
        String below = "99999 * 99999 * 99999 * 10000";
        due("round", lossBy("fade 3 if " + below + " < 0;fade 1"), 3);
        due("below 0", lossBy("fade " + below), 0);
        due("a rest below 0", lossBy("fade 20 + " + below + " % 7"), 15);
        due("towards 0", lossBy("fade 20 + " + below + " / 99999 / 99999 / 99999 / 1000"), 12);
    }

    private static void rulesTests() {
        String[] tests = {"1 < 2", "2 < 2", "2 <= 2", "3 <= 2", "2 = 2", "2 = 3", "2 >= 2", "2 >= 3", "3 > 2", "2 > 2",
            "not 1 = 1", "not not 1 = 1", "1 = 2 or 1 = 1 and 2 = 2", "1 = 1 or 1 = 1 and 1 = 2",
            "[1 = 1 or 1 = 1] and 1 = 2", "not 1 = 1 and 1 = 2", "not [1 = 1 and 1 = 2]", "not 1 = 2 or 1 = 1",
            "not [1 = 2 or 1 = 1]", "1 + 1 = 2 * 1", "as = 6 and same = 2", "1=2 or 1=2 or 1=1", "1=1 and 1=1 and 1=2"};
        int[] holds = {1, 0, 1, 0, 1, 0, 1, 0, 1, 0, 0, 1, 1, 1, 0, 0, 1, 1, 0, 1, 1, 1, 0};
        for (int i = 0; i < tests.length; i++) {
            due("fade 5 if " + tests[i], lossBy("fade 5 if " + tests[i] + ";fade 2"), holds[i] == 1 ? 5 : 2);
            due("fade 5 if " + tests[i], lossBy("fade 5 if " + tests[i]), holds[i] == 1 ? 5 : 0);
        }
        due("the first that holds", lossBy("fade 1 if 1 = 2;fade 2 if 1 = 1;fade 3;fade 4"), 2);
        due("the twelfth", lossBy("fade 1 if 1=2;".repeat(11) + "fade 7 if 2=2"), 7);
        due("none of twelve", lossBy("fade 1 if 1=2;".repeat(12).substring(0, 167)), 0);
        due("the first without a TEST", lossBy("fade 1;fade 2 if 1 = 1"), 1);
    }

    private static void rulesAskAheadOfYear() {
        // Both lose by what the other knows ahead of (1): neither sees the other forget.
        ForgetHeirs x = Due.with("house 1;thing 1 0 0;thing 2 0 0;heir 0 0;heir 0 0;"
            + "knows 0 0 5 10;knows 1 0 5 10;knows 0 1 2 10");
        Due.rule(x, "fade same * 99 if thing = 0;fade known * 3");
        x.force(0);
        due("struck", x.year(), 1);
        due("first forgot", x.knows(0, 0, 1), 0);
        due("second forgot", x.knows(1, 0, 1), 0);
        due("known as ahead", x.knows(0, 1, 1), 4);
        // By a RULE it is not halved for who hates; AGE is asked ahead of (2).
        x = Due.with("house 1;thing 1 9 0;heir 30 0;hates 0;knows 0 0 1 90");
        Due.rule(x, "fade age");
        x.force(0);
        x.year();
        due("not halved", x.knows(0, 0, 1), 60);
        x.force(NONE);
        x.year();
        due("without the RULE", x.knows(0, 0, 1), 55);
    }

    // Promise 11.
    private static void tell() {
        ForgetHeirs x = Due.with(FAMILY);
        due("tell", x.tell(0, 1, 0, false), 1);
        due("as the teller", x.knows(1, 0, 0), 4);
        due("half the STRENGTH", x.knows(1, 0, 1), 25);
        due("tell who knows it better", x.tell(1, 0, 0, true), 0);
        due("both are ACTS", x.count(9), 2);
        due("tell with love what was so", x.tell(0, 1, 1, true), 1);
        due("all the STRENGTH", x.knows(1, 1, 1), 20);
        due("tell who knows it as well", x.tell(0, 1, 1, true), 0);
        due("not cousins", x.tell(0, 2, 0, true), NONE);
        due("oneself", x.tell(0, 0, 0, true), NONE);
        due("not known", x.tell(0, 1, 2, true), NONE);
        due("no thing", x.tell(0, 1, 3, true), NONE);
        due("no thing", x.tell(0, 1, -1, true), NONE);
        due("no heir", x.tell(0, 3, 0, true), NONE);
        due("no heir", x.tell(-1, 0, 0, true), NONE);
        due("ACTS", x.count(9), 4);
        x = Due.with("house 1;thing 1 1 1;heir 0 0;heir 0 0;cousins 1 0;knows 1 0 1 1");
        due("tell", x.tell(1, 0, 0, false), 1);
        due("1 at least", x.knows(0, 0, 1), 1);
        x = Due.with("house 1;thing 1 1 1;heir 0 0;heir 0 0;cousins 1 0;knows 1 0 1 51;knows 0 0 2 50");
        due("tell who knows it nearly as well", x.tell(1, 0, 0, false), 1);
        due("less than before", x.knows(0, 0, 1), 25);
    }

    private static void tellSpreads() {
        ForgetHeirs x = Due.with(FAMILY);
        due("a lie with love", x.tell(2, 1, 1, true), 2);
        due("all of it", x.knows(1, 1, 1), 40);
        due("and on with half", x.knows(0, 1, 1), 20);
        due("as the teller", x.knows(0, 1, 0), 7);
        x = Due.with(FAMILY);
        due("a lie without love", x.tell(2, 1, 1, false), 1);
        due("not on", x.knows(0, 1, 0), 2);
        // HEIR 1 tells 0, whose other cousins are 2 to 5: 2, 3 and 4 are told, 5 and 2's cousin 6 not.
        x = Due.with(STAR + ";knows 1 0 8 61");
        due("a star", x.tell(1, 0, 0, true), 4);
        int[] strengths = {61, 61, 30, 30, 30, 0, 0};
        for (int heir = 0; heir < 7; heir++) {
            due("strength of " + heir, x.knows(heir, 0, 1), strengths[heir]);
        }
        // Those who know it better are among the three, and don't take it.
        x = Due.with(STAR + ";knows 1 0 8 61;knows 2 0 1 61;knows 3 0 1 60");
        due("a star", x.tell(1, 0, 0, true), 3);
        due("the better", x.knows(2, 0, 0), 1);
        due("the weaker", x.knows(3, 0, 1), 30);
        due("the fourth", x.knows(5, 0, 0), NONE);
        // Who did not take it does not tell on.
        x = Due.with(STAR + ";knows 1 0 8 61;knows 0 0 8 61");
        due("a star", x.tell(1, 0, 0, true), 0);
        due("untold", x.knows(2, 0, 0), NONE);
        // What was so does not go on.
        x = Due.with(STAR + ";knows 1 0 1 61");
        due("a star", x.tell(1, 0, 0, true), 1);
        // Half of STRENGTH 1 is 1 at least.
        x = Due.with(STAR + ";knows 6 0 3 1");
        due("weakly", x.tell(6, 2, 0, true), 2);
        due("1 at least", x.knows(0, 0, 1), 1);
    }

    // Promise 12.
    private static void prompt() {
        ForgetHeirs x = Due.with(FAMILY);
        due("prompt", x.prompt(0, 0), 60);
        for (int i = 7; i <= 9; i++) {
            due("prompt", x.prompt(0, 0), 10 * i);
        }
        due("prompt to the most", x.prompt(0, 0), 99);
        due("prompt at the most", x.prompt(0, 0), 99);
        due("ACTS", x.count(9), 6);
        due("prompt what is not known", x.prompt(0, 2), NONE);
        due("prompt no thing", x.prompt(0, 3), NONE);
        due("prompt no heir", x.prompt(3, 0), NONE);
        due("prompt -1", x.prompt(-1, -1), NONE);
        due("ACTS", x.count(9), 6);
    }

    // Promise 13.
    private static void ask() {
        ForgetHeirs x = Due.with(FAMILY);
        due("ask no heir", x.ask(3, 0), NONE);
        due("ask of no thing", x.ask(0, 3), NONE);
        due("ask -1", x.ask(-1, -1), NONE);
        due("ASKS", x.count(6), 3);
        due("ask who knows", x.ask(0, 0), 4);
        due("knows still", x.knows(0, 0, 1), 50);
        due("ask who knows it wrongly", x.ask(2, 0), 3);
        due("knows no more", x.knows(2, 0, 0), NONE);
        due("knows no more", x.knows(2, 0, 1), 0);
        due("ASKS", x.count(6), 1);
        due("ask who does not know", x.ask(2, 2), 10);
        due("ASKS", x.count(6), 0);
        due("ask without an ASK", x.ask(0, 0), NONE);
        due("ACTS", x.count(9), 3);
    }

    // Promise 14.
    private static void burn() {
        ForgetHeirs x = Due.with(FAMILY);
        Due.due("burn", x.burn(1), true);
        Due.due("burn again", x.burn(1), false);
        Due.due("burn 3", x.burn(3), false);
        Due.due("burn -1", x.burn(-1), false);
        due("BURNT", x.thing(1, 4), 1);
        due("not BURNT", x.thing(0, 4), 0);
        due("ACTS", x.count(9), 1);
        for (int i = 0; i < 5; i++) {
            x.year();
        }
        Due.due("burn what is STRUCK", x.burn(2), true);
    }

    // Promise 15.
    private static void undo() {
        ForgetHeirs x = Due.with(FAMILY);
        x.ask(1, 0);
        x.burn(2);
        x.prompt(0, 0);
        x.tell(2, 1, 1, true);
        x.year();
        x.seed(9);
        Due.rule(x, "fade 1");
        x.force(0);
        due("undo a year", x.undo(), 4);
        due("YEAR", x.count(5), 0);
        due("age", x.heir(0, 0), 60);
        due("strength", x.knows(0, 0, 1), 60);
        due("RULE IN FORCE stays", x.count(4), 0);
        due("x stays", x.count(10), 9);
        due("undo a tell", x.undo(), 3);
        due("untold", x.knows(1, 1, 0), NONE);
        due("untold on", x.knows(0, 1, 0), 2);
        due("undo a prompt", x.undo(), 2);
        due("strength", x.knows(0, 0, 1), 50);
        due("undo a burn", x.undo(), 1);
        due("not BURNT", x.thing(2, 4), 0);
        due("undo an ask", x.undo(), 0);
        due("ASKS", x.count(6), 3);
        due("known again", x.knows(1, 0, 0), 3);
        due("undo none", x.undo(), NONE);
        x.force(NONE);
        for (int i = 0; i < 23; i++) {
            x.year();
        }
        due("20 at most", x.count(9), 20);
        due("STRUCK", x.count(7), 0);
        for (int i = 19; i >= 0; i--) {
            due("undo", x.undo(), i);
        }
        due("undo none", x.undo(), NONE);
        due("YEAR", x.count(5), 3);
        due("not STRUCK", x.count(7), 7);
        // ACTS behind an UNDO are UNDONE as well.
        x.year();
        x.prompt(1, 2);
        due("undo", x.undo(), 1);
        due("undo", x.undo(), 0);
        due("YEAR", x.count(5), 3);
    }

    // Promise 16.
    private static void ahead() {
        ForgetHeirs x = Due.with(FAMILY);
        int[][] held = {{3, 3, 3, 3, 0, 0}, {5, 5, 4, 4, 4, 0}, {1, 1, 0, 0, 0, 0}};
        for (int heir = 0; heir < 3; heir++) {
            for (int n = 0; n < 6; n++) {
                due("ahead " + heir + " " + n, x.ahead(heir, n), held[heir][n]);
            }
            due("ahead 200", x.ahead(heir, 200), 0);
        }
        due("ahead 201", x.ahead(0, 201), NONE);
        due("ahead -1", x.ahead(0, -1), NONE);
        due("ahead of heir 3", x.ahead(3, 0), NONE);
        due("ahead of heir -1", x.ahead(-1, 0), NONE);
        due("nothing changed", x.count(5), 0);
        due("nothing changed", x.count(8), 5);
    }

    // Promises 17 and 28.
    private static void strikeAndCost() {
        ForgetHeirs x = Due.with(FAMILY);
        due("strike", x.strike(0), 3);
        due("strike", x.strike(1), 3);
        due("strike", x.strike(2), 4);
        due("strike 3", x.strike(3), NONE);
        due("strike -1", x.strike(-1), NONE);
        due("cost", x.cost(0), 1);
        due("cost of a song", x.cost(1), 1);
        due("cost of what does not fade", x.cost(2), 0);
        due("cost 3", x.cost(3), -2000);
        due("cost -1", x.cost(-1), -2000);
        due("not BURNT by it", x.thing(0, 4), 0);
        x.burn(0);
        due("strike of what is BURNT", x.strike(0), 2);
        due("cost of what is BURNT", x.cost(0), 0);
        for (int i = 0; i < 6; i++) {
            x.year();
        }
        due("strike of what is STRUCK", x.strike(0), 2);
        due("strike of what is STRUCK", x.strike(1), 3);
        due("cost of what is STRUCK", x.cost(1), 0);
        // AGE takes nothing in 20 YEARS, then 20, 40, and of the 39 that are left 3 a YEAR.
        x = Due.with("house 1;thing 1 0 0;heir 0 0;knows 0 0 1 99");
        due("strike of all that age takes", x.strike(0), 72);
        Due.rule(x, "fade year % 2");
        x.force(0);
        // One less in every second YEAR, and the 99th of these is 197.
        due("strike late", x.strike(0), 197);
        due("prompted", x.prompt(0, 0), 99);
        Due.rule(x, "fade 1 - burnt if year < 199;fade 99");
        due("RULES", x.count(3), 2);
        x.force(1);
        due("strike by a RULE", x.strike(0), 98);
        due("cost less than 0", x.cost(0), 98 - 199);
        Due.rule(x, "fade 99 if year = 199;fade 0");
        x.force(2);
        due("the last YEAR looked at", x.strike(0), 199);
        Due.rule(x, "fade 99 if year = 200;fade 99 * burnt");
        x.force(3);
        due("not looked at", x.strike(0), -2);
        due("cost without a STRIKE", x.cost(0), -1000);
        x.year();
        due("looked at now", x.strike(0), 200);
        due("cost", x.cost(0), 199);
        Due.rule(x, "fade 99 - 99 * burnt");
        x.force(4);
        due("cost, if it would not be", x.cost(0), -1000);
    }

    // Promise 18.
    private static void inherits() {
        ForgetHeirs x = Due.with(FAMILY);
        due("who inherits", x.inherits(0), 1);
        due("when", x.inherits(1), 4);
        due("what 2", x.inherits(2), NONE);
        due("what -1", x.inherits(-1), NONE);
        for (int i = 0; i < 4; i++) {
            x.year();
        }
        due("who inherits", x.inherits(0), 1);
        due("when", x.inherits(1), 4);
        x.year();
        due("nobody", x.inherits(0), -2);
        due("nobody", x.inherits(1), -2);
        due("what 2", x.inherits(2), NONE);
        due("without heirs", Due.with("house 1;thing 1 1 1").inherits(0), -2);
        // Of several who HOLDS most, of these the least.
        String things = "house 1;thing 1 1 0;thing 2 1 0;thing 3 1 0;heir 0 0;heir 0 0;heir 0 0;";
        x = Due.with(things + "knows 0 0 1 3;knows 1 1 2 3;knows 1 2 3 3;knows 2 0 1 3;knows 2 1 2 3");
        due("who HOLDS most", x.inherits(0), 1);
        due("when", x.inherits(1), 2);
        x = Due.with(things + "knows 0 0 1 3;knows 2 1 2 3;knows 1 2 3 2;knows 1 0 1 2");
        due("as that YEAR begins", x.inherits(0), 0);
        // 200 YEARS, and no more.
        x = Due.with("house 1;thing 1 0 0;heir 0 0;knows 0 0 1 99");
        Due.rule(x, "fade 99 if year = 199;fade 0");
        Due.rule(x, "fade 99 if year = 200;fade 0");
        x.force(0);
        due("the last", x.inherits(0), 0);
        due("the last", x.inherits(1), 199);
        x.force(1);
        due("behind 200", x.inherits(0), -3);
        due("behind 200", x.inherits(1), -3);
    }

    // Promises 19 and 20.
    private static void longestAndFields() {
        ForgetHeirs x = Due.with(FAMILY);
        due("longest", x.longest(), 2);
        int[] fields = {15, 15, 15, 15, 3, 0};
        for (int n = 0; n < fields.length; n++) {
            due("fields " + n, x.fields(n), fields[n]);
        }
        due("fields 200", x.fields(200), 0);
        due("fields 201", x.fields(201), NONE);
        due("fields -1", x.fields(-1), NONE);
        x.force(0);
        for (int i = 0; i < 4; i++) {
            x.year();
        }
        due("longest", x.longest(), 2);
        due("fields", x.fields(0), 3);
        x.year();
        due("longest of STRUCK ones", x.longest(), 2);
        due("no THINGS", Due.with("house 1;heir 1 1").longest(), -2);
        due("no THINGS", Due.with("house 1;heir 1 1").fields(0), 0);
        x = Due.with("house 1;thing 1 1 1;thing 1 1 2;thing 1 1 4;heir 0 0;knows 0 1 1 9;knows 0 2 1 9");
        due("of several the least", x.longest(), 1);
        due("not HELD, not yet STRUCK", x.fields(0), 7);
        due("fields", x.fields(1), 6);
        Due.rule(x, "fade 99 if thing = 1 and year = 50;fade 0");
        x.force(0);
        due("what is not STRUCK ahead of all", x.longest(), 2);
    }

    // Promise 21.
    private static void falls() {
        ForgetHeirs x = Due.with(FAMILY);
        due("falls", x.falls(0), 2);
        due("falls", x.falls(1), 4);
        due("falls", x.falls(2), 0);
        due("falls 3", x.falls(3), NONE);
        due("falls -1", x.falls(-1), NONE);
        due("nothing changed", x.knows(0, 0, 1), 50);
        // Without HEIR 0, who has it right, two agree; without one of those two, it falls.
        x = Due.with("house 1;thing 1 1 1;heir 0 0;heir 0 0;knows 0 0 5 9;knows 1 0 5 9");
        due("a lie of two", x.falls(0), 1);
        due("a lie of two", x.falls(1), 1);
        x.ask(0, 0);
        due("nobody HOLDS it now", x.falls(1), 0);
    }

    // Promise 22.
    private static void examine() {
        ForgetHeirs x = Due.with(FAMILY);
        due("examine whom", x.examine(0), 1);
        due("of what", x.examine(1), 0);
        due("HELD then", x.examine(2), 3);
        due("what 3", x.examine(3), NONE);
        due("what -1", x.examine(-1), NONE);
        x.ask(0, 0);
        x.ask(0, 0);
        x.ask(0, 0);
        due("without an ASK", x.examine(2), 3);
        due("no heirs", Due.with("house 1;thing 1 1 1").examine(0), -2);
        due("no things", Due.with("house 1;heir 1 1").examine(2), -2);
        due("no heirs, and none such", Due.with("house 1").examine(3), NONE);
        x = Due.with("house 1;thing 1 1 1;thing 2 1 1;heir 0 0;heir 0 0;knows 1 1 2 5");
        due("none better: whom", x.examine(0), 0);
        due("none better: of what", x.examine(1), 0);
        due("none better: HELD", x.examine(2), 1);
        // Of three who agree on a lie one less; of two both.
        x = Due.with("house 1;thing 1 1 1;thing 1 1 1;heir 0 0;heir 0 0;heir 0 0;"
            + "knows 0 0 5 9;knows 1 0 5 9;knows 2 0 5 9;knows 1 1 6 9;knows 2 1 6 9");
        due("whom", x.examine(0), 1);
        due("of what", x.examine(1), 1);
        due("HELD", x.examine(2), 3);
    }

    // Promise 23.
    private static void likeliest() {
        ForgetHeirs x = Due.with(FAMILY);
        due("likeliest", x.likeliest(0, 0), 4);
        due("STRENGTH", x.likeliest(0, 1), 50);
        x.prompt(1, 0);
        x.prompt(2, 0);
        due("likeliest together", x.likeliest(0, 0), 3);
        due("STRENGTH together", x.likeliest(0, 1), 59);
        due("likeliest", x.likeliest(1, 0), 7);
        due("what 2", x.likeliest(0, 2), NONE);
        due("what -1", x.likeliest(0, -1), NONE);
        due("thing 3", x.likeliest(3, 0), NONE);
        due("thing -1", x.likeliest(-1, 0), NONE);
        x = Due.with("house 1;thing 1 1 1;thing 1 1 1;heir 0 0;heir 0 0;knows 0 0 9 7;knows 1 0 0 7");
        due("of several the least", x.likeliest(0, 0), 0);
        due("nobody", x.likeliest(1, 0), -2);
        due("nobody", x.likeliest(1, 1), -2);
        x = Due.with("house 1;thing 1 1 1;thing 1 1 1;heir 0 0;heir 0 0;knows 0 0 9 7;knows 1 0 8 6;knows 1 1 0 1");
        due("as the highest", x.likeliest(0, 0), 9);
        due("of the least STRENGTH", x.likeliest(1, 1), 1);
    }

    // Promise 24.
    private static void parts() {
        ForgetHeirs x = Due.with(FAMILY);
        due("parts all", x.parts(7, 0), 1);
        due("by", x.parts(7, 1), 2);
        due("parts 0 and 1", x.parts(3, 1), 1);
        due("parts one", x.parts(4, 0), 0);
        due("parts one", x.parts(4, 1), 0);
        due("parts none", x.parts(0, 1), 0);
        due("what 2", x.parts(7, 2), NONE);
        due("what -1", x.parts(7, -1), NONE);
        due("heirs 8", x.parts(8, 0), NONE);
        due("heirs -1", x.parts(-1, 0), NONE);
        // 0 and 1 alike in THING 0, 1 and 2 in THING 1: two are needed; that two know it not is alike.
        x = Due.with("house 1;thing 1 1 1;thing 1 1 1;thing 1 1 1;heir 0 0;heir 0 0;heir 0 0;heir 0 0;"
            + "knows 0 0 5 1;knows 1 0 5 2;knows 2 0 6 1;knows 0 1 5 1;knows 1 1 6 1;knows 2 1 6 9");
        due("parts three", x.parts(7, 0), 2);
        due("by", x.parts(7, 1), 3);
        due("who knows it and who not", x.parts(12, 1), 1);
        due("all four", x.parts(15, 1), 3);
        x = Due.with("house 1;thing 1 1 1;heir 0 0;heir 0 0;heir 0 0;knows 0 0 5 1;knows 1 0 5 9");
        due("by none", x.parts(3, 0), -2);
        due("by none", x.parts(7, 1), -2);
        due("of two", x.parts(5, 0), 1);
    }

    // Promises 25 and 26.
    private static void waysAndTaught() {
        ForgetHeirs x = Due.with(FAMILY);
        due("ways of two", x.ways(0), 3);
        due("ways of one", x.ways(1), 1);
        due("ways of none", x.ways(2), 1);
        due("ways of 3", x.ways(3), NONE);
        due("ways of -1", x.ways(-1), NONE);
        due("taught or not", x.taught(1, 0), -2);
        due("made it up", x.taught(2, 1), NONE);
        due("as it was", x.taught(0, 0), -3);
        due("not known", x.taught(0, 2), -3);
        due("no heir", x.taught(3, 0), -4);
        due("no thing", x.taught(0, 3), -4);
        due("-1", x.taught(-1, -1), -4);
        String heirs = "house 1;thing 1 1 1" + ";heir 0 0".repeat(4);
        String lies = ";knows 0 0 5 1;knows 1 0 5 2;knows 2 0 5 3;knows 3 0 5 4";
        // A triangle: 16 rooted forests; a path of 4: 21; a ring of 4: 45.
        due("a triangle", Due.with(heirs + ";cousins 0 1;cousins 1 2;cousins 2 0" + lies).ways(0), 16);
        due("a path", Due.with(heirs + ";cousins 0 1;cousins 1 2;cousins 2 3" + lies).ways(0), 21);
        due("a ring", Due.with(heirs + ";cousins 0 1;cousins 1 2;cousins 2 3;cousins 3 0" + lies).ways(0), 45);
        due("two twos", Due.with(heirs + ";cousins 0 1;cousins 2 3" + lies).ways(0), 9);
        x = Due.with(heirs + ";cousins 0 1;cousins 1 2;cousins 2 3;knows 0 0 5 1;knows 1 0 5 1;knows 2 0 6 1;knows 3 0 1 1");
        due("the same lie alone", x.ways(0), 3);
        due("another lie", x.taught(2, 0), NONE);
        x = Due.with("house 1;thing 1 1 1" + ";heir 0 0".repeat(7) + ";cousins 0 1;cousins 0 2;cousins 0 3;cousins 0 4;"
            + "cousins 0 5;cousins 0 6;cousins 1 2;cousins 3 4;cousins 5 6;cousins 1 3"
            + lies + ";knows 4 0 5 1;knows 5 0 5 1;knows 6 0 5 1");
        due("seven", x.ways(0), 3584);
    }

    // Promise 27.
    private static void prompts() {
        ForgetHeirs x = Due.with(FAMILY);
        due("prompts", x.prompts(0, 0, 1), 0);
        due("prompts", x.prompts(0, 0, 3), 0);
        due("prompts", x.prompts(0, 0, 4), 1);
        due("prompts of 40 YEARS", x.prompts(0, 0, 40), 50);
        due("at 0 it is known no more", x.prompts(1, 2, 4), 0);
        due("at 0 it is known no more", x.prompts(1, 2, 5), 1);
        due("of who hates", x.prompts(2, 0, 3), 1);
        due("0 YEARS", x.prompts(0, 0, 0), NONE);
        due("41 YEARS", x.prompts(0, 0, 41), NONE);
        due("not known", x.prompts(0, 2, 1), NONE);
        due("no thing", x.prompts(0, 3, 1), NONE);
        due("no heir", x.prompts(3, 0, 1), NONE);
        x.burn(0);
        due("of what is BURNT", x.prompts(0, 0, 3), 2);
        Due.rule(x, "fade 0");
        x.force(0);
        due("by a RULE", x.prompts(0, 0, 1), -3);
        due("by a RULE, not known", x.prompts(0, 2, 1), NONE);
        due("by a RULE, 41 YEARS", x.prompts(0, 0, 41), NONE);
        x.force(NONE);
        due("without it", x.prompts(0, 0, 3), 2);
        // AGE is 99 at most: 44 a YEAR, twice the FADE and 4 more.
        x = Due.with("house 1;thing 1 20 0;heir 99 0;knows 0 0 1 99");
        x.burn(0);
        due("the dearest", x.prompts(0, 0, 40), (40 * 44 + 1 - 99 + 9) / 10);
        // From 1 against 44: five ahead of one YEAR.
        x = Due.with("house 1;thing 1 20 0;heir 99 0;knows 0 0 1 1");
        x.burn(0);
        due("several ahead of one", x.prompts(0, 0, 1), 5);
    }

    // Promises 29 and 30: from 0 the DRAWS are 0, 21468, 9988, 22117, 3498, 16927, 16045, 19741, 12122 ..
    private static void seedAndDrawn() {
        String head = "house 1;thing 1 0 5;thing 2 0 6;heir 0 100;heir 0 ";
        String tail = ";knows 0 0 1 50;knows 0 1 2 50;knows 1 0 1 50;knows 1 1 2 50";
        ForgetHeirs x = Due.with(head + "1" + tail);
        due("drawn", x.drawn(1, 1, 1), 3);
        due("drawn", x.drawn(1, 1, 0), 2);
        due("drawn twice", x.drawn(2, 1, 1), 6);
        due("drawn twice", x.drawn(2, 1, 0), 4);
        due("drawn on", x.drawn(1, 2, 1), 3);
        due("drawn on", x.drawn(1, 3, 1), 2);
        due("x as it was", x.count(10), 0);
        due("nothing stays", x.count(5), 0);
        due("nothing stays", x.count(8), 4);
        due("below 27", Due.with(head + "27" + tail).drawn(1, 2, 1), 3);
        due("below 28", Due.with(head + "28" + tail).drawn(1, 2, 1), 2);
        due("m 0", x.drawn(0, 1, 0), NONE);
        due("m 11", x.drawn(11, 1, 0), NONE);
        due("n 0", x.drawn(1, 0, 0), NONE);
        due("n 61", x.drawn(1, 61, 0), NONE);
        due("what 2", x.drawn(1, 1, 2), NONE);
        due("what -1", x.drawn(1, 1, -1), NONE);
        due("the most", x.drawn(10, 60, 0), 0);
        due("no THINGS", Due.with("house 1;heir 0 100").drawn(10, 60, 1), 0);
        due("no HEIRS", Due.with("house 1;thing 1 1 1").drawn(3, 1, 0), 0);
        due("seed", x.seed(12345), 0);
        due("seed below 0", x.seed(-1), NONE);
        due("seed 0", x.seed(0), 12345);
        due("seed", x.seed(2147483647), 0);
        due("x", x.count(10), 2147483647);
        // From 12345 the first DRAW is 21468: DRINK 68 is not above it.
        x = Due.with("house 1;thing 1 0 5;heir 0 68;knows 0 0 1 50");
        x.seed(12345);
        due("68 not below 68", x.drawn(1, 1, 1), 1);
        x = Due.with("house 1;thing 1 0 5;heir 0 69;knows 0 0 1 50");
        x.seed(12345);
        due("68 below 69", x.drawn(1, 1, 1), 0);
        due("it is STRUCK then", x.drawn(1, 1, 0), 0);
        // The YEARS drawn go by the RULE IN FORCE.
        x = Due.with("house 1;thing 1 0 5;heir 0 0;knows 0 0 1 50");
        Due.rule(x, "fade 30");
        x.force(0);
        due("one YEAR", x.drawn(3, 1, 0), 3);
        due("two YEARS", x.drawn(3, 2, 0), 0);
    }

    // Promise 31.
    private static void count() {
        ForgetHeirs x = Due.with(FAMILY);
        Due.rule(x, "fade 1");
        Due.rule(x, "fade 2");
        x.force(1);
        x.seed(5);
        x.ask(0, 0);
        x.burn(0);
        x.feed(0, 0, 0, 0, 0);
        int[] counts = {3, 3, 2, 2, 1, 0, 2, 7, 5, 2, 5, 20};
        for (int what = 0; what < counts.length; what++) {
            due("count " + what, x.count(what), counts[what]);
        }
        due("count 12", x.count(12), NONE);
        due("count -1", x.count(-1), NONE);
        x.force(NONE);
        for (int i = 0; i < 4; i++) {
            x.year();
        }
        due("YEAR", x.count(5), 4);
        due("THINGS not STRUCK", x.count(7), 4);
        due("what all HOLD", x.count(8), 1);
        due("ACTS", x.count(9), 6);
    }

    // Promises 32 and 33.
    private static void imageAndBack() {
        ForgetHeirs x = new ForgetHeirs();
        due("image without a HOUSE", x.image(3), 0);
        due("image 4", x.image(4), NONE);
        due("image -1", x.image(-1), NONE);
        due("back 0, never made", x.back(0), NONE);
        due("back 4", x.back(4), NONE);
        due("back -1", x.back(-1), NONE);
        Due.house(x, FAMILY);
        Due.rule(x, "fade 1");
        x.seed(4);
        x.force(0);
        x.year();
        x.year();
        x.burn(1);
        x.ask(0, 0);
        due("image", x.image(0), 2);
        x.force(NONE);
        x.seed(8);
        for (int i = 0; i < 5; i++) {
            x.year();
        }
        Due.rule(x, "fade 2");
        x.feed(0, 0, 0, 0, 0);
        due("image", x.image(1), 7);
        due("back", x.back(0), 2);
        int[] counts = {3, 3, 2, 2, 0, 2, 2, 7, 5, 0, 4, 20};
        for (int what = 0; what < counts.length; what++) {
            due("count " + what + " of an image", x.count(what), counts[what]);
        }
        due("strength", x.knows(0, 0, 1), 48);
        due("BURNT", x.thing(1, 4), 1);
        due("age", x.heir(0, 0), 62);
        due("nothing can be UNDONE", x.undo(), NONE);
        // What comes behind does not change the IMAGE.
        x.year();
        x.prompt(0, 0);
        due("back again", x.back(0), 2);
        due("strength", x.knows(0, 0, 1), 48);
        due("back to another", x.back(1), 7);
        due("x", x.count(10), 8);
        due("none IN FORCE", x.count(4), NONE);
        x.end(0);
        Due.house(x, "house 5;heir 9 9");
        due("back to another HOUSE", x.back(0), 2);
        due("its HEIRS", x.count(1), 3);
        due("back to none", x.back(3), 0);
        due("no HOUSE", x.year(), NONE);
        due("no HEIRS", x.count(1), 0);
        due("made anew", x.image(0), 0);
        due("back to it", x.back(0), 0);
        due("no HOUSE", x.longest(), NONE);
    }
}
