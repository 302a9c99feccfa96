/** The bounds of part III: what is asked of later YEARS and of now, DRAWS and IMAGES. */
final class AskedBounds {
    private static final int NONE = ForgetHeirs.NONE;
    private static final String KEPT = "house 1;thing 1 0 5;heir 0 0;knows 0 0 1 99";
    private static final String IN_199 = "fade 99 if year = 199;fade 0";
    private static final String IN_200 = "fade 99 if year = 200;fade 0";
    private static final int[] NO_YEARS = {-1, -2, 201, 1000, Integer.MIN_VALUE, Integer.MAX_VALUE};

    private AskedBounds() {
    }

    static void test() {
        nothingChanges();
        ahead();
        strike();
        inheritsWhen();
        inheritsWho();
        longest();
        fields();
        falls();
        examine();
        likeliest();
        partsOfFew();
        partsOfAll();
        ways();
        taught();
        promptsYears();
        promptsFewest();
        cost();
        seed();
        draws();
        drawnTimes();
        drawnDrink();
        images();
        back();
    }

    private static void due(String call, long got, long want) {
        Due.due(call, got, want);
    }

    private static void nothingChanges() {
        Doc.says(Doc.TERMS, "(By what is asked nothing changes; YEARS go on by the RULE IN FORCE; 200 are looked at most.)");
        ForgetHeirs x = CallBounds.rich();
        for (int i = 0; i < 3; i++) {
            x.ahead(i, 200);
            x.strike(i);
            x.inherits(i % 2);
            x.longest();
            x.fields(200);
            x.falls(i);
            x.examine(i);
            x.likeliest(i, i % 2);
            x.parts(7, i % 2);
            x.ways(i);
            x.taught(i, 0);
            x.prompts(0, i, 40);
            x.cost(i);
            x.drawn(10, 60, i % 2);
        }
        Due.due("nothing changed", Deep.all(x).equals(Deep.all(CallBounds.rich())), true);
        // YEARS of all kinds go on by the RULE IN FORCE, and by another when it is.
        x = Told.by(KEPT, "fade 33");
        Due.rule(x, "fade 50");
        int[] last = {2, 1, 24};
        for (int i = 0; i < last.length; i++) {
            x.force(i == 2 ? NONE : i);
            int strike = i == 2 ? 72 : last[i];
            due("strike", x.strike(0), strike);
            due("inherits", x.inherits(1), strike);
            due("ahead", x.ahead(0, Math.min(200, strike)), 1);
            due("ahead", x.ahead(0, strike + 1), 0);
            due("fields", x.fields(strike), 5);
            due("fields", x.fields(strike + 1), 0);
        }
    }

    private static void ahead() {
        Doc.says(Doc.TERMS, "AHEAD n YEARS (0 to 200): THINGS an HEIR HOLDS then, as bits.");
        Doc.says(16, "AHEAD; NONE without these.");
        ForgetHeirs x = Told.by(KEPT, IN_199);
        Due.rule(x, IN_200);
        due("ahead 0", x.ahead(0, 0), 1);
        due("ahead 199", x.ahead(0, 199), 1);
        due("ahead 200", x.ahead(0, 200), 0);
        x.force(1);
        due("ahead 200, kept", x.ahead(0, 200), 1);
        x.year();
        due("ahead 199, kept", x.ahead(0, 199), 1);
        due("ahead 200", x.ahead(0, 200), 0);
        for (int n : NO_YEARS) {
            Deep.refuses("ahead " + n, () -> Told.by(KEPT, IN_200), y -> y.ahead(0, n), NONE);
        }
        // All seven THINGS.
        x = Due.with("house 1" + ";thing 1 0 0".repeat(7) + ";heir 0 0;heir 0 0;knows 0 0 1 9;knows 0 1 1 9;knows 0 2 1 9"
            + ";knows 0 3 1 9;knows 0 4 1 9;knows 0 5 1 9;knows 0 6 1 9;knows 1 6 1 8");
        due("ahead of all", x.ahead(0, 28), 127);
        due("ahead of one", x.ahead(1, 27), 64);
        due("ahead of one", x.ahead(1, 28), 0);
        due("ahead of none", x.ahead(0, 29), 0);
    }

    private static void strike() {
        Doc.says(Doc.TERMS, "STRIKE: the YEAR in which a THING is STRUCK.");
        Doc.says(17, "STRIKE (of one that is STRUCK, too); -2: not in 200 YEARS; NONE without that THING.");
        ForgetHeirs x = Told.by(KEPT, IN_199);
        Due.rule(x, IN_200);
        Due.rule(x, "fade 0");
        Due.rule(x, "fade 99");
        due("strike in the last YEAR looked at", x.strike(0), 199);
        x.force(1);
        due("strike not looked at", x.strike(0), -2);
        x.year();
        due("strike looked at now", x.strike(0), 200);
        x.force(2);
        due("strike never", x.strike(0), -2);
        x.force(3);
        due("strike at once", x.strike(0), 1);
        x.year();
        for (int i = 0; i < 250; i++) {
            x.year();
        }
        due("strike of one that is STRUCK long ago", x.strike(0), 1);
        due("strike of what nobody knows", Due.with("house 1;thing 1 0 0").strike(0), 0);
    }

    private static void inheritsWhen() {
        Doc.says(18, "INHERITS what 0: who, 1: the YEAR; -2: nobody HOLDS anything now; -3: somebody does still behind "
            + "200 YEARS. NONE for others, or without a HOUSE.");
        ForgetHeirs x = Told.by(KEPT, IN_199);
        Due.rule(x, IN_200);
        due("who", x.inherits(0), 0);
        due("in the last YEAR looked at", x.inherits(1), 199);
        x.force(1);
        due("behind 200 YEARS", x.inherits(0), -3);
        due("behind 200 YEARS", x.inherits(1), -3);
        x.year();
        due("who", x.inherits(0), 0);
        due("looked at now", x.inherits(1), 200);
        x = Told.by(KEPT, "fade 99");
        due("now is the last YEAR", x.inherits(1), 0);
        x.year();
        due("nobody now", x.inherits(0), -2);
        due("nobody now", x.inherits(1), -2);
        // Known, and not HELD: a lie of one alone.
        x = Due.with("house 1;thing 1 0 0;heir 0 0;knows 0 0 2 99");
        due("a lie", x.inherits(0), -2);
        due("a lie", x.inherits(1), -2);
    }

    private static void inheritsWho() {
        Doc.says(Doc.TERMS, "INHERITS: the HEIR who HOLDS something in the last YEAR, as it begins, in which anybody does "
            + "(of several who HOLDS most THINGS, of these the least): who; that YEAR.");
        String house = "house 1;thing 1 0 0;thing 2 0 0;thing 3 0 0;heir 0 0;heir 0 0;heir 0 0";
        String[] known = {";knows 2 0 1 9", ";knows 1 0 1 9;knows 2 0 1 9", ";knows 0 0 1 9;knows 1 0 1 9;knows 1 1 2 9",
            ";knows 0 0 1 9;knows 1 0 1 9;knows 1 1 2 9;knows 2 1 2 9;knows 2 2 3 9",
            ";knows 0 0 9 9;knows 0 1 9 9;knows 0 2 3 9;knows 1 1 2 9;knows 2 0 1 9;knows 2 1 2 9"};
        int[] who = {2, 1, 1, 1, 2};
        for (int i = 0; i < known.length; i++) {
            ForgetHeirs x = Told.by(house + known[i], "fade 99 if year = 5;fade 0");
            due("who by " + known[i], x.inherits(0), who[i]);
            due("when", x.inherits(1), 5);
        }
        // One THING and seven HEIRS; one HEIR and seven THINGS.
        ForgetHeirs y = Due.with("house 1;thing 1 20 0" + ";heir 0 0".repeat(7) + ";knows 6 0 1 21;knows 5 0 1 20");
        due("the seventh", y.inherits(0), 6);
        due("when", y.inherits(1), 1);
        y = Due.with("house 1" + ";thing 1 20 0".repeat(7) + ";heir 0 0;knows 0 6 1 21");
        due("by the seventh THING", y.inherits(0), 0);
        due("when", y.inherits(1), 1);
        // Who HOLDS most in the YEAR ahead of the last does not count.
        ForgetHeirs x = Told.by(house + ";knows 0 0 1 9;knows 0 1 2 9;knows 0 2 3 9;knows 2 0 1 9",
            "fade 99 if year = 4 and heir = 0 or year = 5;fade 0");
        due("who", x.inherits(0), 2);
        due("when", x.inherits(1), 5);
    }

    private static void longest() {
        Doc.says(Doc.TERMS, "LONGEST: the THING that is STRUCK last, of several the least (one that is not in 200 YEARS "
            + "ahead of all).");
        Doc.says(19, "LONGEST; -2: there are no THINGS; NONE without a HOUSE.");
        String house = "house 1;thing 1 0 0;thing 1 0 0;thing 1 0 0;heir 0 0;knows 0 0 1 9;knows 0 1 1 9;knows 0 2 1 9";
        String[] rules = {"fade 9", "fade 9 - thing", "fade 7 + thing", "fade 9 if thing = 2;fade 5",
            "fade 99 if thing = 0 and year = 199 or thing = 1 and year = 200;fade 0",
            "fade 99 if year = 200 - thing;fade 0", "fade 0", "fade 99 if thing = 0 and year = 198 or year = 199;fade 0",
            "fade 99 if thing = 2 and year = 199 or year = 150;fade 0 if thing = 2;fade 1"};
        int[] longest = {0, 1, 0, 0, 1, 0, 0, 1, 2};
        for (int i = 0; i < rules.length; i++) {
            due("longest by " + rules[i], Told.by(house, rules[i]).longest(), longest[i]);
        }
        // STRUCK ones by their YEARS, too.
        ForgetHeirs x = Told.by(house, "fade 9 if thing = 2 - year;fade 0");
        x.year();
        x.year();
        due("STRUCK", x.count(7), 1);
        due("the one that stands", x.longest(), 0);
        x.year();
        due("STRUCK", x.count(7), 0);
        due("STRUCK last", x.longest(), 0);
        x = Told.by(house, "fade 9 if thing = year;fade 0");
        for (int i = 0; i < 3; i++) {
            x.year();
        }
        due("STRUCK last", x.longest(), 2);
        due("no THINGS", Due.with("house 1").longest(), -2);
        due("no HOUSE", new ForgetHeirs().longest(), NONE);
        due("seven", Due.with(HouseBounds.FULL).longest(), 6);
    }

    private static void fields() {
        Doc.says(Doc.TERMS, "FIELDS of THINGS not STRUCK n YEARS on, together.");
        Doc.says(20, "FIELDS n YEARS on (0 to 200); NONE without these, or a HOUSE.");
        ForgetHeirs x = Told.by(KEPT, IN_199);
        Due.rule(x, IN_200);
        due("fields 0", x.fields(0), 5);
        due("fields 199", x.fields(199), 5);
        due("fields 200", x.fields(200), 0);
        x.force(1);
        due("fields 200, kept", x.fields(200), 5);
        for (int n : NO_YEARS) {
            Deep.refuses("fields " + n, () -> Told.by(KEPT, IN_200), y -> y.fields(n), NONE);
            due("fields " + n + " without THINGS", Due.with("house 1").fields(n), NONE);
        }
        due("the most", Due.with("house 1" + ";thing 1 0 99".repeat(7)).fields(0), 693);
        due("none on", Due.with("house 1" + ";thing 1 0 99".repeat(7)).fields(1), 0);
        due("no THINGS", Due.with("house 1").fields(0), 0);
        due("no THINGS", Due.with("house 1").fields(200), 0);
    }

    private static void falls() {
        Doc.says(Doc.TERMS, "FALLS: THINGS not STRUCK that somebody HOLDS, and nobody would, if one HEIR knew nothing.");
        Doc.says(21, "FALLS, as bits; NONE without that HEIR.");
        String house = "house 1;thing 4 0 0;heir 0 0;heir 0 0;heir 0 0";
        String[] known = {"", ";knows 0 0 4 1", ";knows 0 0 5 1", ";knows 0 0 4 1;knows 1 0 4 1",
            ";knows 0 0 5 1;knows 1 0 5 1", ";knows 0 0 5 1;knows 1 0 5 1;knows 2 0 5 1",
            ";knows 0 0 5 1;knows 1 0 5 1;knows 2 0 4 1", ";knows 0 0 4 1;knows 1 0 5 1;knows 2 0 6 1"};
        int[][] falls = {{0, 0, 0}, {1, 0, 0}, {0, 0, 0}, {0, 0, 0}, {1, 1, 0}, {0, 0, 0}, {0, 0, 0}, {1, 0, 0}};
        for (int i = 0; i < known.length; i++) {
            ForgetHeirs x = Due.with(house + known[i]);
            for (int heir = 0; heir < 3; heir++) {
                due("falls " + heir + " by " + known[i], x.falls(heir), falls[i][heir]);
            }
        }
        ForgetHeirs x = Due.with(house + ";cousins 0 1;knows 0 0 5 9");
        x.year();
        x.tell(0, 1, 0, true);
        due("STRUCK, though two agree", x.falls(0), 0);
        x = Due.with("house 1" + ";thing 1 0 0".repeat(7) + ";heir 0 0;knows 0 0 1 9;knows 0 1 1 9;knows 0 2 1 9"
            + ";knows 0 3 1 9;knows 0 4 1 9;knows 0 5 1 9;knows 0 6 1 9");
        due("all seven", x.falls(0), 127);
    }

    private static int[] examined(String text) {
        ForgetHeirs x = Due.with(text);
        return new int[] {x.examine(0), x.examine(1), x.examine(2)};
    }

    private static void examine() {
        Doc.says(Doc.TERMS, "EXAMINE: the ASK (of an HEIR and a THING; ASKS left are not asked) behind which all HEIRS HOLD "
            + "fewest, together; of several the least HEIR, then the least THING.");
        Doc.says(22, "EXAMINE what 0: the HEIR, 1: the THING, 2: what all HEIRS HOLD then; -2: there are no HEIRS, or no "
            + "THINGS. NONE for others, or without a HOUSE.");
        String house = "house 1;thing 1 0 0;thing 1 0 0;heir 0 0;heir 0 0;heir 0 0";
        String[] known = {"", ";knows 2 1 1 9", ";knows 0 0 5 9;knows 1 0 5 9;knows 0 1 5 9;knows 1 1 5 9",
            ";knows 0 1 5 9;knows 1 1 5 9;knows 1 0 5 9;knows 2 0 5 9", ";knows 1 1 5 9;knows 2 1 5 9",
            ";knows 0 0 5 9;knows 1 0 5 9;knows 2 0 5 9",
            ";knows 0 0 5 9;knows 1 0 5 9;knows 2 0 5 9;knows 1 1 6 9;knows 2 1 6 9",
            ";knows 0 0 5 9;knows 1 0 6 9;knows 2 0 1 9"};
        int[][] asks = {{0, 0, 0}, {0, 0, 1}, {0, 0, 2}, {0, 1, 2}, {1, 1, 0}, {0, 0, 2}, {1, 1, 3}, {0, 0, 1}};
        for (int i = 0; i < known.length; i++) {
            int[] examined = examined(house + known[i]);
            for (int what = 0; what < 3; what++) {
                due("examine " + what + " by " + known[i], examined[what], asks[i][what]);
            }
        }
        // One HEIR alone errs, of one THING, with others: seven HEIRS, then seven THINGS.
        int[] seven = examined("house 1;thing 1 0 0" + ";heir 0 0".repeat(7) + ";knows 5 0 2 9;knows 6 0 2 9;knows 0 0 1 9");
        due("of seven HEIRS", seven[0], 5);
        due("HELD then", seven[2], 1);
        seven = examined("house 1" + ";thing 1 0 0".repeat(7) + ";heir 0 0;heir 0 0;knows 0 6 2 9;knows 1 6 2 9;knows 0 0 1 9");
        due("of seven THINGS", seven[1], 6);
        due("HELD then", seven[2], 1);
        ForgetHeirs x = Due.with(house + ";knows 1 1 5 9;knows 2 1 5 9");
        x.ask(0, 0);
        due("ASKS left", x.count(6), 0);
        due("examine without one", x.examine(2), 0);
        for (int what = 0; what < 3; what++) {
            due("no HEIRS", Due.with("house 1;thing 1 1 1").examine(what), -2);
            due("no THINGS", Due.with("house 1;heir 1 1").examine(what), -2);
            due("neither", Due.with("house 1").examine(what), -2);
            due("no HOUSE", new ForgetHeirs().examine(what), NONE);
        }
    }

    private static void likeliest() {
        Doc.says(Doc.TERMS, "LIKELIEST of a THING: as what it is known with the greatest STRENGTH of all HEIRS together, of "
            + "several the least.");
        Doc.says(23, "LIKELIEST what 0: as what, 1: STRENGTH together; -2: nobody knows it. NONE without these.");
        String house = "house 1;thing 1 0 0" + ";heir 0 0".repeat(7);
        String[] known = {";knows 6 0 0 1", ";knows 6 0 9 1", ";knows 0 0 9 50;knows 1 0 0 50",
            ";knows 0 0 9 51;knows 1 0 0 50", ";knows 0 0 0 50;knows 1 0 9 30;knows 2 0 9 21",
            ";knows 0 0 0 50;knows 1 0 9 30;knows 2 0 9 20", ";knows 0 0 3 99;knows 1 0 2 99;knows 2 0 4 99"};
        int[][] likeliest = {{0, 1}, {9, 1}, {0, 50}, {9, 51}, {9, 51}, {0, 50}, {2, 99}};
        for (int i = 0; i < known.length; i++) {
            for (int what = 0; what < 2; what++) {
                due("likeliest " + what + " by " + known[i], Due.with(house + known[i]).likeliest(0, what),
                    likeliest[i][what]);
            }
        }
        due("nobody", Due.with(house).likeliest(0, 0), -2);
        due("nobody", Due.with(house).likeliest(0, 1), -2);
        StringBuilder all = new StringBuilder(house);
        for (int heir = 0; heir < 7; heir++) {
            all.append(";knows ").append(heir).append(" 0 7 99");
        }
        due("all", Due.with(all.toString()).likeliest(0, 0), 7);
        due("all together", Due.with(all.toString()).likeliest(0, 1), 693);
    }

    private static void partsOfFew() {
        Doc.says(Doc.TERMS, "PARTS: the fewest THINGS so that each two of a set of HEIRS know one of them unlike (not to "
            + "know it is unlike, too, but not of two), of several sets the least as bits.");
        String house = "house 1;thing 1 0 0;thing 1 0 0;thing 1 0 0;heir 0 0;heir 0 0;heir 0 0";
        // Known by two alike; unlike; by one; by neither.
        due("alike", Due.with(house + ";knows 0 0 5 1;knows 1 0 5 99").parts(3, 0), -2);
        due("unlike", Due.with(house + ";knows 0 0 5 1;knows 1 0 6 1").parts(3, 1), 1);
        due("known and not", Due.with(house + ";knows 0 1 0 1").parts(3, 1), 2);
        due("known not and known", Due.with(house + ";knows 1 2 0 1").parts(3, 1), 4);
        due("neither", Due.with(house + ";knows 2 2 0 1").parts(3, 0), -2);
        due("neither", Due.with(house).parts(3, 1), -2);
        String seven = "house 1" + ";thing 1 0 0".repeat(7) + ";heir 0 0;heir 0 0";
        due("by the seventh", Due.with(seven + ";knows 0 6 5 1").parts(3, 1), 64);
        due("by the seventh", Due.with(seven + ";knows 0 6 5 1;knows 1 6 6 1").parts(3, 0), 1);
        // Of several the least as bits; the fewest ahead of that.
        due("the least", Due.with(house + ";knows 0 1 5 1;knows 0 2 5 1").parts(3, 1), 2);
        String one = house + ";knows 0 0 5 1;knows 1 1 5 1;knows 0 2 5 1;knows 1 2 6 1";
        due("one", Due.with(one).parts(7, 0), 1);
        due("one, though the highest", Due.with(one).parts(7, 1), 4);
        String two = house + ";knows 0 0 5 1;knows 1 1 5 1;knows 0 2 5 1;knows 1 2 5 1";
        due("two", Due.with(two).parts(7, 0), 2);
        due("the least two", Due.with(two).parts(7, 1), 3);
    }

    private static void partsOfAll() {
        Doc.says(24, "PARTS what 0: how many, 1: the set; -2: by none. NONE without these. (Of a set of none or one: 0, the "
            + "empty set.)");
        // HEIR h knows THING t, if bit t of h is set.
        StringBuilder text = new StringBuilder("house 1" + ";thing 1 0 0".repeat(3) + ";heir 0 0".repeat(7));
        for (int heir = 0; heir < 7; heir++) {
            for (int thing = 0; thing < 3; thing++) {
                text.append((heir >> thing & 1) == 1 ? ";knows " + heir + " " + thing + " 1 1" : "");
            }
        }
        ForgetHeirs x = Due.with(text.toString());
        for (int heirs = 0; heirs < 128; heirs++) {
            if (Integer.bitCount(heirs) < 2) {
                due("parts none or one", x.parts(heirs, 0), 0);
                due("parts none or one", x.parts(heirs, 1), 0);
            } else {
                due("parts some", x.parts(heirs, 0), partedBy(heirs));
            }
        }
        due("parts all", x.parts(127, 0), 3);
        due("by", x.parts(127, 1), 7);
        due("parts 0 and 4", x.parts(17, 1), 4);
        int[] wrong = {-1, 128, 129, 256, Integer.MIN_VALUE, Integer.MAX_VALUE};
        for (int heirs : wrong) {
            due("parts " + heirs, x.parts(heirs, 0), NONE);
            due("parts " + heirs, x.parts(heirs, 1), NONE);
        }
        // Of seven HEIRS the last two are parted by THING 1 alone, or by none.
        String last = "house 1;thing 1 0 0;thing 1 0 0" + ";heir 0 0".repeat(7) + ";knows 0 0 0 1;knows 1 0 1 1;knows 2 0 2 1"
            + ";knows 3 0 3 1;knows 4 0 4 1;knows 5 0 5 1;knows 6 0 5 1";
        due("the last two", Due.with(last + ";knows 6 1 1 1").parts(127, 1), 3);
        due("the last two", Due.with(last).parts(127, 1), -2);
        due("all but one of them", Due.with(last).parts(63, 1), 1);
        due("of two HEIRS none or one", Due.with("house 1;heir 0 0;heir 0 0").parts(2, 0), 0);
        due("of two HEIRS both", Due.with("house 1;heir 0 0;heir 0 0").parts(3, 0), -2);
        due("of two HEIRS a third", Due.with("house 1;heir 0 0;heir 0 0").parts(4, 0), NONE);
    }

    /** How many of three bits the numbers of these HEIRS must be looked at by, that no two of them are the same. */
    private static int partedBy(int heirs) {
        int best = 3;
        for (int set = 0; set < 8; set++) {
            int seen = 0;
            boolean parts = true;
            for (int heir = 0; heir < 7; heir++) {
                if ((heirs >> heir & 1) == 1) {
                    parts &= (seen >> (heir & set) & 1) == 0;
                    seen |= 1 << (heir & set);
                }
            }
            best = parts ? Math.min(best, Integer.bitCount(set)) : best;
        }
        return best;
    }

    private static String lies(int heirs) {
        StringBuilder text = new StringBuilder();
        for (int heir = 0; heir < heirs; heir++) {
            text.append(";knows ").append(heir).append(" 0 5 ").append(heir + 1);
        }
        return text.toString();
    }

    private static void ways() {
        Doc.says(Doc.TERMS, "TAUGHT of a THING: each HEIR who knows it not as it was had it of a cousin who knows it as the "
            + "same, or made it up; nobody had it of themselves, by others. WAYS: how many there are for all of them "
            + "together;");
        Doc.says(25, "WAYS; NONE without that THING.");
        String house = "house 1;thing 1 0 0" + ";heir 0 0".repeat(7);
        due("nobody knows it", Due.with(house).ways(0), 1);
        due("all know it as it was", Due.with(house + ";cousins 0 1;knows 0 0 1 9;knows 1 0 1 9").ways(0), 1);
        due("one alone", Due.with(house + ";cousins 0 1" + lies(1)).ways(0), 1);
        due("two, no cousins", Due.with(house + lies(2)).ways(0), 1);
        due("two cousins", Due.with(house + ";cousins 0 1" + lies(2)).ways(0), 3);
        due("two cousins, two lies", Due.with(house + ";cousins 0 1;knows 0 0 5 9;knows 1 0 6 9").ways(0), 1);
        due("a lie and what was so", Due.with(house + ";cousins 0 1;knows 0 0 5 9;knows 1 0 1 9").ways(0), 1);
        due("a triangle", Due.with(house + ";cousins 0 1;cousins 1 2;cousins 0 2" + lies(3)).ways(0), 16);
        due("a path of 7", Due.with(house + ";cousins 0 1;cousins 1 2;cousins 2 3;cousins 3 4;cousins 4 5;cousins 5 6"
            + lies(7)).ways(0), 377);
        due("a star of 7", Due.with(house + ";cousins 0 6;cousins 1 6;cousins 2 6;cousins 3 6;cousins 4 6;cousins 5 6"
            + lies(7)).ways(0), 256);
        // All of five are cousins: ten twos, and 6 * 6 * 6 * 6 ways.
        due("five", Due.with(house + ";cousins 0 1;cousins 0 2;cousins 0 3;cousins 0 4;cousins 1 2;cousins 1 3;cousins 1 4"
            + ";cousins 2 3;cousins 2 4;cousins 3 4" + lies(5)).ways(0), 1296);
    }

    private static void taught() {
        Doc.says(Doc.TERMS, "of one: of whom in all of these (NONE: they made it up), or not the same in all.");
        Doc.says(26, "Of whom one had a THING (NONE: they made it up); -2: not the same in all WAYS; -3: they know it as it "
            + "was, or not; -4 without these.");
        ForgetHeirs x = Due.with("house 1;thing 4 0 0" + ";heir 0 0".repeat(7) + ";cousins 0 1;cousins 1 2;cousins 2 3"
            + ";cousins 4 3;knows 0 0 5 9;knows 1 0 5 1;knows 2 0 6 9;knows 3 0 4 9;knows 4 0 4 9;knows 6 0 5 9");
        int[] taught = {-2, -2, NONE, -3, -3, -3, NONE};
        for (int heir = 0; heir < 7; heir++) {
            due("taught " + heir, x.taught(heir, 0), taught[heir]);
        }
        int[] wrong = {-1, 7, Integer.MIN_VALUE, Integer.MAX_VALUE};
        for (int heir : wrong) {
            due("taught " + heir, x.taught(heir, 0), -4);
            due("taught 0, thing " + heir, x.taught(0, heir), -4);
            due("taught 3, thing " + heir, x.taught(3, heir), -4);
        }
        due("thing 1", x.taught(0, 1), -4);
        // Of HEIR 2 and THING 1, whom another had it of, or of what another THING is known as.
        String house = "house 1;thing 4 0 0;thing 4 0 0" + ";heir 0 0".repeat(4) + ";cousins 2 3;cousins 0 2;cousins 1 3";
        x = Due.with(house + ";knows 2 1 5 9;knows 3 1 5 9;knows 1 1 4 9");
        due("of one of two", x.taught(2, 1), -2);
        due("of the other", x.taught(3, 1), -2);
        due("who has it right", x.taught(1, 1), -3);
        due("ways", x.ways(1), 3);
        x = Due.with(house + ";knows 2 1 5 9;knows 3 0 5 9;knows 0 0 5 9");
        due("alone", x.taught(2, 1), NONE);
        due("ways", x.ways(1), 1);
        // A lie that it was 0 is not shared by who does not know it.
        x = Due.with(house + ";knows 2 1 0 9");
        due("0 by one", x.taught(2, 1), NONE);
        due("ways", x.ways(1), 1);
    }

    private static void promptsYears() {
        Doc.says(Doc.TERMS, "PROMPTS of an HEIR and a THING they know for n YEARS (1 to 40):");
        Doc.says(27, "PROMPTS; -2: by none; -3: UNKNOWN; NONE without these.");
        Doc.says(Doc.TERMS, "without a RULE IN FORCE alone (UNKNOWN else).");
        String house = "house 1;thing 1 10 0;thing 1 10 0;heir 0 0;knows 0 0 1 99";
        ForgetHeirs x = Due.with(house);
        int[] wrong = {0, -1, 41, 200, Integer.MIN_VALUE, Integer.MAX_VALUE};
        for (int n : wrong) {
            Deep.refuses("prompts for " + n, () -> Due.with(house), y -> y.prompts(0, 0, n), NONE);
            Deep.refuses("prompts by a RULE for " + n, () -> Told.by(house, "fade 1"), y -> y.prompts(0, 0, n), NONE);
        }
        due("for 1", x.prompts(0, 0, 1), 0);
        due("for 9", x.prompts(0, 0, 9), 0);
        due("for 10", x.prompts(0, 0, 10), 1);
        // 20 YEARS of 10 and 20 of 11: 420 and 1 of 99 and tens.
        due("for 40", x.prompts(0, 0, 40), 33);
        due("not known", x.prompts(0, 1, 1), NONE);
        // HEIR 1 of 3 and THING 2 of 3: their own STRENGTH, AGE, hatred, FADE and portrait.
        ForgetHeirs y = Due.with("house 1;thing 1 1 0;thing 1 2 0;thing 1 19 0;heir 0 0;heir 99 0;heir 20 0;hates 1"
            + ";knows 1 2 1 21;knows 1 1 1 99;knows 2 2 1 99;knows 0 0 1 99;knows 2 1 1 9");
        y.burn(2);
        due("their own, for 1", y.prompts(1, 2, 1), 1);
        y.undo();
        due("their own, for 1", y.prompts(1, 2, 1), 0);
        due("their own, for 2", y.prompts(1, 2, 2), 1);
        due("of another, for 2", y.prompts(2, 1, 2), 0);
        due("of another, for 3", y.prompts(2, 1, 3), 1);
        Due.rule(x, "fade 10");
        due("with a RULE not IN FORCE", x.prompts(0, 0, 10), 1);
        x.force(0);
        due("with a RULE IN FORCE", x.prompts(0, 0, 10), -3);
        due("with a RULE IN FORCE", x.prompts(0, 0, 1), -3);
        due("with a RULE IN FORCE, not known", x.prompts(0, 1, 1), NONE);
        due("with a RULE IN FORCE, no HEIR", x.prompts(1, 0, 1), NONE);
        due("with a RULE IN FORCE, no THING", x.prompts(0, 2, 1), NONE);
        x.force(NONE);
        due("with none again", x.prompts(0, 0, 10), 1);
    }

    private static void promptsFewest() {
        Doc.says(Doc.TERMS, "the fewest by which they know it n YEARS on (each ahead of a YEAR, some ahead of one as one "
            + "likes):");
        // At 0 it is known no more: STRENGTH must be more than what is lost.
        int[] strengths = {1, 9, 10, 11, 20, 21, 99};
        int[] forOne = {2, 2, 2, 1, 1, 0, 0};
        for (int i = 0; i < strengths.length; i++) {
            ForgetHeirs x = Due.with("house 1;thing 1 20 0;heir 0 0;knows 0 0 1 " + strengths[i]);
            due("for one YEAR of " + strengths[i], x.prompts(0, 0, 1), forOne[i]);
        }
        // Nothing is lost: none is needed.
        due("of FADE 0", Due.with("house 1;thing 1 0 0;heir 0 0;hates 0;knows 0 0 1 1").prompts(0, 0, 40), 0);
        // The most that can be lost: 44 a YEAR, of AGE 99.
        ForgetHeirs x = Due.with("house 1;thing 1 20 0;heir 99 0;knows 0 0 1 1");
        x.burn(0);
        due("several ahead of one", x.prompts(0, 0, 1), 5);
        due("for all 40 of 44", x.prompts(0, 0, 40), 176);
        // AGE 79 is 80 a YEAR on: 3, then 4, a YEAR.
        x = Due.with("house 1;thing 1 0 0;heir 79 0;knows 0 0 1 7");
        due("of AGE 79, 1 YEAR", x.prompts(0, 0, 1), 0);
        due("of AGE 79, 2 YEARS", x.prompts(0, 0, 2), 1);
        // More than 99 can't be kept: of 99, ten ahead of the first YEAR are none.
        x = Due.with("house 1;thing 1 20 0;heir 0 0;knows 0 0 1 99");
        due("of 99 for 4", x.prompts(0, 0, 4), 0);
        due("of 99 for 5", x.prompts(0, 0, 5), 1);
        due("of 99 for 6", x.prompts(0, 0, 6), 3);
    }

    private static void cost() {
        Doc.says(Doc.TERMS, "COST of burning: YEARS by which STRIKE of that THING would be earlier, if its portrait were BURNT "
            + "now (less than 0: later).");
        Doc.says(28, "COST; 0 if it is BURNT, or STRUCK; -1000: it is not STRUCK in 200 YEARS, or would not be; -2000 without "
            + "that THING.");
        String[] rules = {"fade 1 + burnt", "fade 2 - burnt", "fade 1", IN_199, IN_200, "fade 99 * burnt",
            "fade 99 - 99 * burnt", "fade 99 if year = 199 or burnt = 1;fade 0", "fade 99 if year = 200 or burnt = 1;fade 0",
            "fade 99 if year = 199 or burnt = 0;fade 0", "fade 99 if year = 200 or burnt = 0;fade 0"};
        int[] costs = {49, -49, 0, 0, -1000, -1000, -1000, 199, -1000, -199, -1000};
        for (int i = 0; i < rules.length; i++) {
            due("cost by " + rules[i], Told.by(KEPT, rules[i]).cost(0), costs[i]);
        }
        ForgetHeirs x = Told.by(KEPT, IN_200);
        x.burn(0);
        due("BURNT, and not STRUCK in 200 YEARS", x.cost(0), 0);
        x = Told.by(KEPT, "fade 99");
        x.year();
        due("STRUCK", x.cost(0), 0);
        due("nobody knows it", Due.with("house 1;thing 1 1 1").cost(0), 0);
        // Another portrait that is BURNT stays so: THING 1 is known no more behind one YEAR, and THING 0 fades faster then.
        x = Told.by("house 1;thing 1 0 0;thing 1 0 0;heir 0 0;knows 0 0 1 90;knows 0 1 1 90",
            "fade 90 if thing = 1 and burnt = 1;fade 3 if known = 2;fade 9 + burnt");
        x.burn(1);
        due("by another one's", x.cost(0), 10 - 9);
        due("without a RULE", Due.with("house 1;thing 1 9 0;heir 0 0;knows 0 0 1 99").cost(0), 5);
    }

    private static void seed() {
        Doc.says(29, "x becomes a number: what it was; NONE, and nothing happens, below 0.");
        Doc.says(Doc.TERMS, "DRAWS: x (0 to 2147483647; 0 at first)");
        ForgetHeirs x = new ForgetHeirs();
        due("x at first", x.count(10), 0);
        due("seed the most", x.seed(2147483647), 0);
        due("seed 1", x.seed(1), 2147483647);
        due("seed 0", x.seed(0), 1);
        due("seed 0 again", x.seed(0), 0);
        int[] wrong = {-1, -2, -2147483647, Integer.MIN_VALUE};
        for (int n : wrong) {
            Deep.refuses("seed " + n, CallBounds::rich, y -> y.seed(n), NONE);
            Deep.refuses("seed " + n + " of a new one", ForgetHeirs::new, y -> y.seed(n), NONE);
        }
    }

    /** What HEIR 0 HOLDS, of one THING, behind one YEAR drawn. */
    private static int drawnOnce(int x, int drink) {
        ForgetHeirs y = Due.with("house 1;thing 1 0 0;heir 0 " + drink + ";knows 0 0 1 9");
        y.seed(x);
        int held = y.drawn(1, 1, 1);
        due("x as it was", y.count(10), x);
        return held;
    }

    private static void draws() {
        Doc.says(Doc.TERMS, "becomes x * 1103515245 + 12345, of 2147483648 the rest; a DRAW is x / 65536.");
        int[] seeds = {0, 1, 12345, 1073741824, 2147483646, 2147483647};
        for (int seed : seeds) {
            long next = Math.floorMod(seed * 1103515245L + 12345L, 2147483648L);
            int draw = (int) (next / 65536 % 100);
            due("a DRAW of " + draw + ", and DRINK as much", drawnOnce(seed, draw), 1);
            due("a DRAW of " + draw + ", and DRINK more", drawnOnce(seed, draw + 1), 0);
        }
        // By hand: of the most, x is 1043980748 then, and the DRAW 15929.
        due("29 is not below 29", drawnOnce(2147483647, 29), 1);
        due("29 is below 30", drawnOnce(2147483647, 30), 0);
    }

    private static void drawnTimes() {
        Doc.says(Doc.TERMS, "YEARS drawn m times (1 to 10) n (1 to 60) from now on:");
        Doc.says(Doc.TERMS, "THINGS not STRUCK at the end; what all HEIRS HOLD, all together (nothing stays; x as it was).");
        Doc.says(30, "YEARS drawn what 0: THINGS, 1: what HEIRS HOLD. NONE without these, or a HOUSE.");
        String house = "house 1;thing 1 0 0;heir 0 0;hates 0;knows 0 0 1 99";
        ForgetHeirs x = Due.with(house);
        due("1 and 1", x.drawn(1, 1, 0), 1);
        due("10 and 60", x.drawn(10, 60, 0), 10);
        due("10 and 60", x.drawn(10, 60, 1), 10);
        int[] noTimes = {0, -1, 11, Integer.MIN_VALUE, Integer.MAX_VALUE};
        for (int m : noTimes) {
            Deep.refuses("drawn " + m + " times", () -> Due.with(house), y -> y.drawn(m, 1, 0), NONE);
        }
        int[] noYears = {0, -1, 61, Integer.MIN_VALUE, Integer.MAX_VALUE};
        for (int n : noYears) {
            Deep.refuses("drawn " + n + " YEARS", () -> Due.with(house), y -> y.drawn(1, n, 1), NONE);
        }
        int[] noWhat = {-1, 2, Integer.MIN_VALUE, Integer.MAX_VALUE};
        for (int what : noWhat) {
            Deep.refuses("drawn, what " + what, () -> Due.with(house), y -> y.drawn(1, 1, what), NONE);
        }
        // The n-th YEAR is gone by, and no more.
        x = Told.by(house, "fade 99 if year = 59;fade 0");
        due("59 YEARS", x.drawn(10, 59, 1), 10);
        due("60 YEARS", x.drawn(10, 60, 1), 0);
        due("60 YEARS", x.drawn(10, 60, 0), 0);
        // THINGS not STRUCK, and what HEIRS HOLD: two and three.
        x = Due.with("house 1;thing 1 0 0;thing 1 0 0;thing 1 0 0;heir 0 0;heir 0 0;knows 0 0 1 9;knows 1 0 1 9;knows 1 2 1 9");
        due("THINGS", x.drawn(1, 1, 0), 2);
        due("what HEIRS HOLD", x.drawn(1, 1, 1), 3);
        due("THINGS, 7 times", x.drawn(7, 5, 0), 14);
        due("what HEIRS HOLD, 7 times", x.drawn(7, 5, 1), 21);
        due("no THINGS", Due.with("house 1;heir 0 100").drawn(10, 60, 0), 0);
        due("no THINGS", Due.with("house 1;heir 0 100").drawn(10, 60, 1), 0);
        due("no HEIRS", Due.with("house 1;thing 1 1 1").drawn(10, 60, 0), 0);
        due("neither", Due.with("house 1").drawn(10, 60, 0), 0);
        due("no HOUSE", new ForgetHeirs().drawn(1, 1, 0), NONE);
    }

    private static void drawnDrink() {
        Doc.says(Doc.TERMS, "ahead of each, of each HEIR by numbers a DRAW mod 100: below their DRINK (if there are THINGS) a "
            + "DRAW mod THINGS: that one they know no more:");
        // From 0 the DRAWS mod 100 are 0, 68, 88, 17, 98, 27 ..; of one THING each DRAW is of that.
        String one = "house 1;thing 1 0 0;heir 0 ";
        due("DRINK 0, and 0", Due.with(one + "0;knows 0 0 1 9").drawn(1, 1, 1), 1);
        due("DRINK 1, and 0", Due.with(one + "1;knows 0 0 1 9").drawn(1, 1, 1), 0);
        due("DRINK 100", Due.with(one + "100;knows 0 0 1 9").drawn(1, 1, 1), 0);
        due("it is STRUCK", Due.with(one + "100;knows 0 0 1 9").drawn(1, 1, 0), 0);
        // x goes on from one time to the next: 0 and a THING, then 88.
        due("twice DRINK 1", Due.with(one + "1;knows 0 0 1 9").drawn(2, 1, 1), 1);
        due("twice DRINK 88", Due.with(one + "88;knows 0 0 1 9").drawn(2, 1, 1), 1);
        due("twice DRINK 89", Due.with(one + "89;knows 0 0 1 9").drawn(2, 1, 1), 0);
        // Ahead of the YEAR: what is forgotten then is STRUCK in it; the second HEIR's DRAW is 68, or behind a THING's 88.
        String two = "house 1;thing 1 0 0;heir 0 0;heir 0 ";
        due("DRINK 68, and 68", Due.with(two + "68;knows 1 0 1 9").drawn(1, 1, 0), 1);
        due("DRINK 69, and 68", Due.with(two + "69;knows 1 0 1 9").drawn(1, 1, 0), 0);
        String drunk = "house 1;thing 1 0 0;heir 0 1;heir 0 ";
        due("DRINK 88, and 88", Due.with(drunk + "88;knows 1 0 1 9").drawn(1, 1, 0), 1);
        due("DRINK 89, and 88", Due.with(drunk + "89;knows 1 0 1 9").drawn(1, 1, 0), 0);
        // Of seven THINGS the second DRAW, 21468, is of THING 6; of six of THING 0.
        for (int things = 1; things <= 7; things++) {
            for (int thing = 0; thing < things; thing++) {
                ForgetHeirs x = Due.with("house 1" + ";thing 1 0 0".repeat(things) + ";heir 0 1;knows 0 " + thing + " 1 9");
                due("of " + things + " THINGS", x.drawn(1, 1, 1), 21468 % things == thing ? 0 : 1);
            }
        }
    }

    private static void images() {
        Doc.says(Doc.TERMS, "IMAGES 0 to 3: all but the TAPE and the RULES, as it is (the RULE IN FORCE, too);");
        Doc.says(32, "An IMAGE is made (without a HOUSE, too: 0): YEAR; NONE for no such k.");
        ForgetHeirs x = Due.with("house 1");
        for (int k = 0; k < 4; k++) {
            due("image " + k, x.image(k), k);
            x.year();
        }
        for (int k = 3; k >= 0; k--) {
            due("back " + k, x.back(k), k);
            due("YEAR", x.count(5), k);
        }
        // In place of the one there was.
        due("back 2", x.back(2), 2);
        due("image 0 again", x.image(0), 2);
        due("back 1", x.back(1), 1);
        due("back 0", x.back(0), 2);
        int[] wrong = {-1, 4, 5, Integer.MIN_VALUE, Integer.MAX_VALUE};
        for (int k : wrong) {
            Deep.refuses("image " + k, CallBounds::rich, y -> y.image(k), NONE);
            Deep.refuses("image " + k + " without a HOUSE", ForgetHeirs::new, y -> y.image(k), NONE);
            Deep.refuses("back " + k, CallBounds::rich, y -> y.back(k), NONE);
        }
        due("image without a HOUSE", new ForgetHeirs().image(3), 0);
        // ACTS can be UNDONE behind an IMAGE.
        x = Due.with("house 1");
        x.year();
        due("image", x.image(0), 1);
        due("undo", x.undo(), 0);
        due("YEAR", x.count(5), 0);
    }

    private static void back() {
        Doc.says(Doc.TERMS, "gone back to, it is as it was (these stay; nothing can be UNDONE then).");
        Doc.says(33, "All is as in an IMAGE: YEAR; NONE, and nothing happens, if it was never made, or without it.");
        for (int k = 0; k < 4; k++) {
            int never = k;
            Deep.refuses("back " + k + ", never made", () -> imagedBut(never), x -> x.back(never), NONE);
            Deep.refuses("back " + k + " without a HOUSE", ForgetHeirs::new, x -> x.back(never), NONE);
        }
        ForgetHeirs x = CallBounds.rich();
        String was = Deep.face(x);
        int acts = x.count(9);
        x.image(3);
        x.year();
        x.burn(2);
        x.force(0);
        x.seed(0);
        due("back", x.back(3), 1);
        due("nothing can be UNDONE", x.count(9), 0);
        due("undo", x.undo(), NONE);
        due("ACTS there were", acts, 5);
        Due.due("as it was", Deep.face(x).equals(was.replaceFirst("^((\\S+ ){9})5 ", "$10 ")), true);
        // The TAPE and the RULES stay; the RULE IN FORCE is that of the IMAGE.
        x = new ForgetHeirs();
        due("image without a HOUSE", x.image(1), 0);
        Due.house(x, HouseBounds.FULL);
        Due.rule(x, "fade 1");
        x.force(0);
        x.seed(7);
        x.feed(0, 0, 0, 0, 0);
        due("back to no HOUSE", x.back(1), 0);
        Due.counts("of no HOUSE again", x, 0, 0, 0, 1, NONE, 0, 0, 0, 0, 0, 0, 20);
        due("year without a HOUSE", x.year(), NONE);
        due("the RULE stays", x.force(0), NONE);
    }

    /** IMAGES are made of all numbers but one. */
    private static ForgetHeirs imagedBut(int never) {
        ForgetHeirs x = Due.with(HouseBounds.FULL);
        x.year();
        for (int k = 0; k < 4; k++) {
            if (k != never) {
                x.image(k);
            }
        }
        x.year();
        return x;
    }
}
