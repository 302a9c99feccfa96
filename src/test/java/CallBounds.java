import java.util.function.ToLongFunction;

/** The bounds of each call: without these, without a HOUSE, with no THINGS or HEIRS, with all there may be. */
final class CallBounds {
    private static final int NONE = ForgetHeirs.NONE;
    private static final int LOWEST = Integer.MIN_VALUE;
    private static final int HIGHEST = Integer.MAX_VALUE;
    /** HEIRS 0 and 1, 1 and 2 are cousins; HEIR 0 does not know THING 2, HEIR 1 not THING 1. */
    private static final String FAMILY = "house 3;thing 4 10 7;thing 2 6 5;thing 9 0 3;song 1;"
        + "heir 60 50;heir 20 0;heir 40 10;hates 2;cousins 0 1;cousins 1 2;"
        + "knows 0 0 4 50;knows 0 1 2 20;knows 1 0 3 30;knows 2 0 3 9;knows 2 1 7 40;knows 1 2 9 5";
    /** 32 and its like: where bits are asked by a place, places go round. */
    private static final int[] NO_THREE = {-1, -2, 3, 6, 7, 31, 32, 33, 64, -31, -32, -64, LOWEST, LOWEST + 1, HIGHEST};

    private CallBounds() {
    }

    /** Something of all there is: RULES, one IN FORCE, x, ACTS, IMAGES, a text on the TAPE. */
    static ForgetHeirs rich() {
        ForgetHeirs x = Due.with(FAMILY);
        Due.rule(x, "fade 2 if right = 0;fade loss / 2");
        Due.rule(x, "fade 1");
        x.image(0);
        x.force(1);
        x.seed(77);
        x.year();
        x.prompt(0, 0);
        x.image(2);
        x.tell(0, 1, 1, true);
        x.burn(0);
        x.ask(1, 0);
        Due.type(x, "house 2;heir 7 7");
        return x;
    }

    static void test() {
        newObject();
        fewThings();
        allThings();
        heir();
        thing();
        knows();
        tell();
        tellOfNoCousins();
        prompt();
        ask();
        burn();
        askedOfNone();
        askedWhat();
        count();
    }

    private static void due(String call, long got, long want) {
        Due.due(call, got, want);
    }

    private static void newObject() {
        Doc.says(1, "No HOUSE, no RULES, none IN FORCE.");
        ForgetHeirs x = new ForgetHeirs();
        Due.counts("of a new one", x, 0, 0, 0, 0, NONE, 0, 0, 0, 0, 0, 0, 0);
        for (int k = 0; k < 4; k++) {
            due("no IMAGE " + k, x.back(k), NONE);
        }
        due("no RULE 0", x.force(0), -2);
        // One object's calls do nothing to another one.
        ForgetHeirs y = rich();
        due("HEIRS of the other", y.count(1), 3);
        due("HEIRS still", x.count(1), 0);
        due("RULES still", x.count(3), 0);
    }

    /** What is due without a HOUSE, then with one of nothing, one of a THING alone, and one of an HEIR alone. */
    private static void few(String call, ToLongFunction<ForgetHeirs> called, int... dues) {
        String[] houses = {"house 5", "house 5;thing 1 2 3", "house 5;heir 4 6"};
        Deep.refuses(call + " without a HOUSE", ForgetHeirs::new, called, dues[0]);
        for (int i = 0; i < houses.length; i++) {
            due(call + " of " + houses[i], called.applyAsLong(Due.with(houses[i])), dues[i + 1]);
        }
    }

    private static void fewThings() {
        few("heir", x -> x.heir(0, 0), NONE, NONE, NONE, 4);
        few("thing", x -> x.thing(0, 0), -2, -2, 1, -2);
        few("knows", x -> x.knows(0, 0, 0), -2, -2, -2, -2);
        few("tell", x -> x.tell(0, 0, 0, true), NONE, NONE, NONE, NONE);
        few("prompt", x -> x.prompt(0, 0), NONE, NONE, NONE, NONE);
        few("ask", x -> x.ask(0, 0), NONE, NONE, NONE, NONE);
        few("undo", ForgetHeirs::undo, NONE, NONE, NONE, NONE);
        few("ahead", x -> x.ahead(0, 0), NONE, NONE, NONE, 0);
        few("strike", x -> x.strike(0), NONE, NONE, 0, NONE);
        few("inherits 0", x -> x.inherits(0), NONE, -2, -2, -2);
        few("inherits 1", x -> x.inherits(1), NONE, -2, -2, -2);
        few("inherits 2", x -> x.inherits(2), NONE, NONE, NONE, NONE);
        few("longest", ForgetHeirs::longest, NONE, -2, 0, -2);
        few("fields 0", x -> x.fields(0), NONE, 0, 3, 0);
        few("fields 1", x -> x.fields(1), NONE, 0, 0, 0);
        few("fields 201", x -> x.fields(201), NONE, NONE, NONE, NONE);
        few("falls", x -> x.falls(0), NONE, NONE, NONE, 0);
        few("examine 0", x -> x.examine(0), NONE, -2, -2, -2);
        few("examine 3", x -> x.examine(3), NONE, NONE, NONE, NONE);
        few("likeliest", x -> x.likeliest(0, 0), NONE, NONE, -2, NONE);
        few("parts of none", x -> x.parts(0, 0), 0, 0, 0, 0);
        few("parts of one", x -> x.parts(1, 1), NONE, NONE, NONE, 0);
        few("parts of two", x -> x.parts(3, 1), NONE, NONE, NONE, NONE);
        few("ways", x -> x.ways(0), NONE, NONE, 1, NONE);
        few("taught", x -> x.taught(0, 0), -4, -4, -4, -4);
        few("prompts", x -> x.prompts(0, 0, 1), NONE, NONE, NONE, NONE);
        few("cost", x -> x.cost(0), -2000, -2000, 0, -2000);
        few("drawn 0", x -> x.drawn(1, 1, 0), NONE, 0, 0, 0);
        few("drawn 1", x -> x.drawn(1, 1, 1), NONE, 0, 0, 0);
        few("back", x -> x.back(0), NONE, NONE, NONE, NONE);
        few("force", x -> x.force(0), -2, -2, -2, -2);
        few("year", ForgetHeirs::year, NONE, 0, 1, 0);
        few("burn", x -> x.burn(0) ? 1 : 0, 0, 0, 1, 0);
    }

    private static void allThings() {
        ForgetHeirs x = Due.with(HouseBounds.FULL);
        int[] heir = {0, 1, 0, 63, 64, 64};
        for (int what = 0; what < heir.length; what++) {
            due("heir 6 " + what, x.heir(6, what), heir[what]);
        }
        int[] thing = {1, 1, 9, 1, 0, NONE, 97};
        for (int what = 0; what < thing.length; what++) {
            due("thing 6 " + what, x.thing(6, what), thing[what]);
        }
        due("knows 6 6", x.knows(6, 6, 1), 9);
        due("ahead", x.ahead(6, 28), 64);
        due("ahead", x.ahead(6, 29), 0);
        due("strike 6", x.strike(6), 28);
        due("strike 5", x.strike(5), 0);
        due("who inherits", x.inherits(0), 0);
        due("when", x.inherits(1), 28);
        due("longest", x.longest(), 6);
        due("fields 0", x.fields(0), 63);
        due("fields 1", x.fields(1), 9);
        due("fields 29", x.fields(29), 0);
        due("falls 6", x.falls(6), 0);
        due("examine whom", x.examine(0), 0);
        due("examine of what", x.examine(1), 6);
        due("HELD then", x.examine(2), 1);
        due("likeliest", x.likeliest(6, 0), 2);
        due("likeliest", x.likeliest(6, 1), 18);
        due("parts 0, 1, 6", x.parts(67, 1), 64);
        due("parts all", x.parts(127, 0), -2);
        due("ways", x.ways(6), 1);
        due("taught 0", x.taught(0, 6), NONE);
        due("taught 6", x.taught(6, 6), -3);
        due("prompts for 28", x.prompts(6, 6, 28), 0);
        due("prompts for 29", x.prompts(6, 6, 29), 1);
        due("prompts for 40", x.prompts(6, 6, 40), 2);
        due("cost", x.cost(6), 20);
        due("tell", x.tell(6, 5, 6, true), 0);
        due("prompt", x.prompt(6, 6), 19);
        due("tell", x.tell(6, 5, 6, true), 1);
        due("ask", x.ask(0, 6), 2);
        Due.due("burn", x.burn(6), true);
        due("year", x.year(), 6);
        due("ACTS", x.count(9), 6);
        due("not STRUCK", x.count(7), 64);
    }

    private static void heir() {
        Doc.says(7, "5: THINGS they HOLD, both as bits. NONE without these.");
        Doc.says(7, "Of an HEIR what 0: AGE, 1: DRINK, 2: 1 if they hate, else 0, 3: cousins, as bits, 4: THINGS they know,");
        int[] noWhat = {-1, -2, 6, 7, LOWEST, HIGHEST};
        for (int what : noWhat) {
            Deep.refuses("heir 0, what " + what, CallBounds::rich, x -> x.heir(0, what), NONE);
        }
        for (int heir : NO_THREE) {
            for (int what = 0; what < 6; what++) {
                due("heir " + heir + ", what " + what, rich().heir(heir, what), NONE);
            }
            due("heir " + heir + ", what 6", rich().heir(heir, 6), NONE);
        }
        ForgetHeirs x = Due.with(FAMILY);
        int[][] heirs = {{60, 50, 0, 2, 3, 3}, {20, 0, 0, 5, 5, 5}, {40, 10, 1, 2, 3, 1}};
        for (int heir = 0; heir < 3; heir++) {
            for (int what = 0; what < 6; what++) {
                due("heir " + heir + ", what " + what, x.heir(heir, what), heirs[heir][what]);
            }
        }
    }

    private static void thing() {
        Doc.says(8, "Of a THING what 0: what was so, 1: FADE, 2: FIELD, 3: 1 if a song, else 0, 4: 1 if BURNT, else 0, 5: the "
            + "YEAR in which it was STRUCK (NONE), 6: who HOLDS it, as bits. -2 without these.");
        int[] noWhat = {-1, -2, 7, 8, LOWEST, HIGHEST};
        for (int what : noWhat) {
            Deep.refuses("thing 0, what " + what, CallBounds::rich, x -> x.thing(0, what), -2);
        }
        for (int thing : NO_THREE) {
            for (int what = 0; what < 7; what++) {
                due("thing " + thing + ", what " + what, rich().thing(thing, what), -2);
            }
            due("thing " + thing + ", what 7", rich().thing(thing, 7), -2);
        }
        ForgetHeirs x = Due.with(FAMILY);
        int[][] things = {{4, 10, 7, 0, 0, NONE, 7}, {2, 6, 5, 1, 0, NONE, 1}, {9, 0, 3, 0, 0, NONE, 2}};
        for (int thing = 0; thing < 3; thing++) {
            for (int what = 0; what < 7; what++) {
                due("thing " + thing + ", what " + what, x.thing(thing, what), things[thing][what]);
            }
        }
    }

    private static void knows() {
        Doc.says(9, "Of what an HEIR knows of a THING what 0: as what (NONE: not), 1: STRENGTH (0). -2 without these.");
        int[] noWhat = {-1, -2, 2, LOWEST, HIGHEST};
        for (int what : noWhat) {
            Deep.refuses("knows 0 0, what " + what, CallBounds::rich, x -> x.knows(0, 0, what), -2);
            due("knows not, what " + what, rich().knows(0, 2, what), -2);
        }
        for (int none : NO_THREE) {
            for (int what = 0; what < 2; what++) {
                due("knows " + none + " 0, what " + what, rich().knows(none, 0, what), -2);
                due("knows 0 " + none + ", what " + what, rich().knows(0, none, what), -2);
                due("knows both " + none, rich().knows(none, none, what), -2);
            }
        }
        ForgetHeirs x = Due.with(FAMILY);
        due("as what", x.knows(2, 1, 0), 7);
        due("STRENGTH", x.knows(2, 1, 1), 40);
        due("not known", x.knows(0, 2, 0), NONE);
        due("not known", x.knows(0, 2, 1), 0);
    }

    private static void tell() {
        Doc.says(11, "TELL: how many HEIRS took it; NONE, and nothing happens, without these (cousins, a THING the first one "
            + "knows).");
        for (int none : NO_THREE) {
            Deep.refuses("tell by " + none, CallBounds::rich, x -> x.tell(none, 1, 0, false), NONE);
            Deep.refuses("tell to " + none, CallBounds::rich, x -> x.tell(0, none, 0, false), NONE);
            Deep.refuses("tell of " + none, CallBounds::rich, x -> x.tell(0, 1, none, false), NONE);
            Deep.refuses("tell of " + none + " with love", CallBounds::rich, x -> x.tell(0, 1, none, true), NONE);
            Deep.refuses("tell, all " + none, CallBounds::rich, x -> x.tell(none, none, none, true), NONE);
        }
        due("tell", rich().tell(0, 1, 0, true), 1);
        due("tell, and none takes it", rich().tell(0, 1, 1, true), 0);
    }

    private static void tellOfNoCousins() {
        for (int heir = 0; heir < 3; heir++) {
            int same = heir;
            Deep.refuses("tell oneself " + heir, CallBounds::rich, x -> x.tell(same, same, 0, true), NONE);
        }
        Deep.refuses("tell 2, no cousin", CallBounds::rich, x -> x.tell(0, 2, 0, true), NONE);
        Deep.refuses("tell 0, no cousin", CallBounds::rich, x -> x.tell(2, 0, 0, false), NONE);
        Deep.refuses("tell what is not known", CallBounds::rich, x -> x.tell(0, 1, 2, true), NONE);
        // 1 knows THING 0 no more, by the ASK.
        Deep.refuses("tell what is known no more", CallBounds::rich, x -> x.tell(1, 0, 0, true), NONE);
    }

    private static void prompt() {
        Doc.says(12, "PROMPT: STRENGTH then; NONE, and nothing happens, without these (they know it).");
        for (int none : NO_THREE) {
            Deep.refuses("prompt " + none, CallBounds::rich, x -> x.prompt(none, 0), NONE);
            Deep.refuses("prompt of " + none, CallBounds::rich, x -> x.prompt(0, none), NONE);
        }
        Deep.refuses("prompt what is not known", CallBounds::rich, x -> x.prompt(0, 2), NONE);
        Deep.refuses("prompt what is known no more", CallBounds::rich, x -> x.prompt(1, 0), NONE);
        due("prompt", rich().prompt(0, 0), 69);
    }

    private static ForgetHeirs withoutAsks() {
        ForgetHeirs x = rich();
        x.ask(0, 0);
        x.ask(0, 0);
        return x;
    }

    private static void ask() {
        Doc.says(13, "NONE, and nothing happens, without these, or an ASK left.");
        for (int none : NO_THREE) {
            Deep.refuses("ask " + none, CallBounds::rich, x -> x.ask(none, 0), NONE);
            Deep.refuses("ask of " + none, CallBounds::rich, x -> x.ask(0, none), NONE);
        }
        due("ASKS left", rich().count(6), 2);
        due("ASKS left", withoutAsks().count(6), 0);
        for (int heir = 0; heir < 3; heir++) {
            for (int thing = 0; thing < 3; thing++) {
                int of = heir;
                int what = thing;
                Deep.refuses("ask " + heir + " " + thing + " without one", CallBounds::withoutAsks, x -> x.ask(of, what), NONE);
            }
        }
    }

    private static void burn() {
        for (int none : NO_THREE) {
            Deep.refuses("burn " + none, CallBounds::rich, x -> x.burn(none) ? 1 : 0, 0);
        }
        Deep.refuses("burn what was", CallBounds::rich, x -> x.burn(0) ? 1 : 0, 0);
        Due.due("burn another", rich().burn(1), true);
    }

    private static void askedOfNone() {
        for (int none : NO_THREE) {
            Deep.refuses("ahead of " + none, CallBounds::rich, x -> x.ahead(none, 0), NONE);
            Deep.refuses("strike " + none, CallBounds::rich, x -> x.strike(none), NONE);
            Deep.refuses("falls " + none, CallBounds::rich, x -> x.falls(none), NONE);
            Deep.refuses("likeliest " + none, CallBounds::rich, x -> x.likeliest(none, 0), NONE);
            Deep.refuses("ways " + none, CallBounds::rich, x -> x.ways(none), NONE);
            Deep.refuses("taught " + none, CallBounds::rich, x -> x.taught(none, 0), -4);
            Deep.refuses("taught of " + none, CallBounds::rich, x -> x.taught(0, none), -4);
            Deep.refuses("prompts of " + none, CallBounds::rich, x -> x.prompts(none, 0, 1), NONE);
            Deep.refuses("prompts, thing " + none, CallBounds::rich, x -> x.prompts(0, none, 1), NONE);
            Deep.refuses("cost " + none, CallBounds::rich, x -> x.cost(none), -2000);
        }
    }

    private static void askedWhat() {
        int[] noTwo = {-1, -2, 2, 3, LOWEST, HIGHEST};
        for (int what : noTwo) {
            Deep.refuses("inherits, what " + what, CallBounds::rich, x -> x.inherits(what), NONE);
            Deep.refuses("likeliest, what " + what, CallBounds::rich, x -> x.likeliest(0, what), NONE);
            Deep.refuses("parts, what " + what, CallBounds::rich, x -> x.parts(7, what), NONE);
            Deep.refuses("parts of none, what " + what, CallBounds::rich, x -> x.parts(0, what), NONE);
        }
        int[] noThree = {-1, -2, 3, LOWEST, HIGHEST};
        for (int what : noThree) {
            Deep.refuses("examine, what " + what, CallBounds::rich, x -> x.examine(what), NONE);
        }
        due("inherits, what 2, of nobody", Due.with("house 1").inherits(2), NONE);
        due("examine, what 3, of nobody", Due.with("house 1").examine(3), NONE);
        int[] noHeirs = {-1, 8, 9, 127, 128, LOWEST, HIGHEST};
        for (int heirs : noHeirs) {
            Deep.refuses("parts " + heirs, CallBounds::rich, x -> x.parts(heirs, 0), NONE);
        }
    }

    private static void count() {
        Doc.says(31, "What 0: THINGS, 1: HEIRS, 2: twos of COUSINS, 3: RULES, 4: the RULE IN FORCE (NONE), 5: YEAR, 6: ASKS "
            + "left, 7: THINGS not STRUCK, as bits, 8: what all HEIRS HOLD, 9: ACTS that can be UNDONE, 10: x, 11: bytes of "
            + "the TAPE. NONE for others.");
        int[] noWhat = {-1, -2, 12, 13, 100, LOWEST, HIGHEST};
        for (int what : noWhat) {
            Deep.refuses("count " + what, CallBounds::rich, x -> x.count(what), NONE);
            Deep.refuses("count " + what + " without a HOUSE", ForgetHeirs::new, x -> x.count(what), NONE);
        }
        // THING 0: 0 has it right, 1 knows it no more, 2 alone has it wrong. THING 1: 0 and 1 have it right.
        ForgetHeirs x = rich();
        Due.counts("of a rich one", x, 3, 3, 2, 2, 1, 1, 2, 7, 4, 5, 77, 16);
    }
}
