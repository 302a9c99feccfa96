/** The bounds of a HOUSE. */
final class HouseBounds {
    private static final int NONE = ForgetHeirs.NONE;
    private static final String THINGS = "house 1" + ";thing 0 0 0".repeat(7);
    private static final String HEIRS = "house 1" + ";heir 0 0".repeat(7);
    private static final String TEN_TWOS = ";cousins 6 0;cousins 6 1;cousins 6 2;cousins 6 3;cousins 6 4;cousins 6 5"
        + ";cousins 0 1;cousins 1 2;cousins 2 3;cousins 4 5";
    /** All there may be, in 400 bytes and 40 CLAUSES. */
    static final String FULL = "house 9" + ";thing 1 1 9".repeat(7) + ";heir 0 1".repeat(7) + TEN_TWOS
        + ";knows 6 6 1 9;knows 5 6 2 9;knows 0 6 2 9" + ";song 6".repeat(12);

    private HouseBounds() {
    }

    static void test() {
        clauses();
        all();
        houseNumbers();
        thingNumbers();
        songNumbers();
        heirNumbers();
        hatesNumbers();
        cousinsNumbers();
        knowsNumbers();
        lastToldOfTheSame();
        sevenThings();
        sevenHeirs();
        tenTwos();
        inPlaceOfTheOther();
    }

    private static void due(String call, long got, long want) {
        Due.due(call, got, want);
    }

    private static void clauses() {
        Doc.says(Doc.TERMS, "CLAUSE { ; CLAUSE }, 40 at most:");
        String forty = THINGS + ";song 0".repeat(32);
        Told.isHouse("house 1", 0);
        Told.isHouse(forty, 0);
        Told.noHouse(forty + ";^song 0", Told.CLAUSE_TOO_MANY);
        Told.noHouse(forty + "^,", Told.CAN_NOT_STAND);
        Told.noHouse("^;house 1", Told.CAN_NOT_STAND);
        Told.noHouse("house 1;^;heir 0 0", Told.CAN_NOT_STAND);
        Told.noHouse("house 1;^", Told.CAN_NOT_STAND);
        Told.noHouse("house 1 ^heir 0 0", Told.CAN_NOT_STAND);
        due("the fortieth counts", Due.with(THINGS + ";song 0".repeat(31) + ";song 6").thing(6, 3), 1);
    }

    private static void all() {
        due("bytes", FULL.length(), 400);
        due("CLAUSES", FULL.split(";").length, 40);
        ForgetHeirs x = new ForgetHeirs();
        due("the full house", Due.house(x, FULL), 7);
        Due.counts("of it", x, 7, 7, 10, 0, NONE, 0, 9, 127, 3, 0, 0, 0);
        due("who HOLDS THING 6", x.thing(6, 6), 97);
    }

    private static void houseNumbers() {
        Doc.says(Doc.TERMS, "house NUMBER (ASKS that notaries have, 1 to 20; once, the first CLAUSE)");
        Told.noHouse("house ^0", Told.NUMBER);
        due("ASKS 1", Due.with("house 1").count(6), 1);
        due("ASKS 20", Due.with("house 20").count(6), 20);
        Told.noHouse("house ^21", Told.NUMBER);
        Told.noHouse("house 1;^house 1", Told.CLAUSE_TOO_MANY);
        Told.noHouse("house 1;heir 0 0;^house 1", Told.CLAUSE_TOO_MANY);
        Told.noHouse("^heir 0 0;house 1", Told.CLAUSE_TOO_MANY);
        Told.noHouse("^heir 0 0", Told.CLAUSE_TOO_MANY);
    }

    private static void thingNumbers() {
        Doc.says(Doc.TERMS, "thing NUMBER NUMBER NUMBER (what was so, 0 to 9; FADE 0 to 20; FIELD 0 to 99)");
        int[][] bounds = {{0, 0, 0}, {9, 20, 99}};
        for (int[] bound : bounds) {
            ForgetHeirs x = Due.with("house 1;thing " + bound[0] + " " + bound[1] + " " + bound[2]);
            for (int what = 0; what < 3; what++) {
                due("thing 0 " + what, x.thing(0, what), bound[what]);
            }
        }
        Told.noHouse("house 1;thing ^10 0 0", Told.NUMBER);
        Told.noHouse("house 1;thing 0 ^21 0", Told.NUMBER);
        Told.noHouse("house 1;thing 0 0 ^100", Told.NUMBER);
        Told.noHouse("house 1;thing ^-1 0 0", Told.CAN_NOT_STAND);
        Told.noHouse("house 1;thing 0 ^-1 0", Told.CAN_NOT_STAND);
        Told.noHouse("house 1;thing 0 0^", Told.CAN_NOT_STAND);
        Told.noHouse("house 1;thing 0 0 0 ^0", Told.CAN_NOT_STAND);
    }

    private static void songNumbers() {
        Doc.says(Doc.TERMS, "song NUMBER (a THING that was told)");
        Told.noHouse("house 1;song ^0", Told.NUMBER);
        Told.noHouse("house 1;heir 0 0;song ^0", Told.NUMBER);
        Told.noHouse("house 1;song ^0;thing 0 0 0", Told.NUMBER);
        Told.noHouse("house 1;thing 0 0 0;song ^1;thing 0 0 0", Told.NUMBER);
        Told.noHouse(THINGS + ";song ^7", Told.NUMBER);
        ForgetHeirs x = Due.with(THINGS + ";song 0;song 6;song 6");
        for (int thing = 0; thing < 7; thing++) {
            due("song " + thing, x.thing(thing, 3), thing % 6 == 0 ? 1 : 0);
        }
    }

    private static void heirNumbers() {
        Doc.says(Doc.TERMS, "heir NUMBER NUMBER (AGE 0 to 99; DRINK 0 to 100)");
        ForgetHeirs x = Due.with("house 1;heir 0 0;heir 99 100");
        due("AGE 0", x.heir(0, 0), 0);
        due("DRINK 0", x.heir(0, 1), 0);
        due("AGE 99", x.heir(1, 0), 99);
        due("DRINK 100", x.heir(1, 1), 100);
        Told.noHouse("house 1;heir ^100 0", Told.NUMBER);
        Told.noHouse("house 1;heir 0 ^101", Told.NUMBER);
        Told.noHouse("house 1;heir ^-1 0", Told.CAN_NOT_STAND);
        Told.noHouse("house 1;heir 0 ^-1", Told.CAN_NOT_STAND);
    }

    private static void hatesNumbers() {
        Doc.says(Doc.TERMS, "hates NUMBER (an HEIR that was told)");
        Told.noHouse("house 1;hates ^0", Told.NUMBER);
        Told.noHouse("house 1;thing 0 0 0;hates ^0", Told.NUMBER);
        Told.noHouse("house 1;hates ^0;heir 0 0", Told.NUMBER);
        Told.noHouse("house 1;heir 0 0;hates ^1;heir 0 0", Told.NUMBER);
        Told.noHouse(HEIRS + ";hates ^7", Told.NUMBER);
        ForgetHeirs x = Due.with(HEIRS + ";hates 0;hates 6;hates 6");
        for (int heir = 0; heir < 7; heir++) {
            due("hates " + heir, x.heir(heir, 2), heir % 6 == 0 ? 1 : 0);
        }
    }

    private static void cousinsNumbers() {
        Doc.says(Doc.TERMS, "cousins NUMBER NUMBER (two HEIRS that were told and are none yet)");
        Told.noHouse("house 1;cousins ^0 1", Told.NUMBER);
        Told.noHouse("house 1;heir 0 0;cousins ^1 0;heir 0 0", Told.NUMBER);
        Told.noHouse("house 1;heir 0 0;cousins 0 ^1;heir 0 0", Told.NUMBER);
        Told.noHouse(HEIRS + ";cousins ^7 0", Told.NUMBER);
        Told.noHouse(HEIRS + ";cousins 0 ^7", Told.NUMBER);
        Told.noHouse(HEIRS + ";cousins 6 ^6", Told.NUMBER);
        Told.noHouse(HEIRS + ";cousins 0 6;cousins 0 ^6", Told.NUMBER);
        Told.noHouse(HEIRS + ";cousins 0 6;cousins 6 ^0", Told.NUMBER);
        ForgetHeirs x = Due.with(HEIRS + ";cousins 6 0;cousins 5 6");
        int[] cousins = {64, 0, 0, 0, 0, 64, 33};
        for (int heir = 0; heir < 7; heir++) {
            due("cousins of " + heir, x.heir(heir, 3), cousins[heir]);
        }
    }

    private static void knowsNumbers() {
        Doc.says(Doc.TERMS, "knows NUMBER NUMBER NUMBER NUMBER (an HEIR, a THING, that were told; as what, 0 to 9; "
            + "STRENGTH 1 to 99;");
        Told.noHouse("house 1;thing 0 0 0;knows ^0 0 0 1", Told.NUMBER);
        Told.noHouse("house 1;thing 0 0 0;knows ^0 0 0 1;heir 0 0", Told.NUMBER);
        Told.noHouse("house 1;heir 0 0;knows 0 ^0 0 1", Told.NUMBER);
        Told.noHouse("house 1;heir 0 0;knows 0 ^0 0 1;thing 0 0 0", Told.NUMBER);
        String both = THINGS + HEIRS.substring(7);
        Told.noHouse(both + ";knows ^7 0 0 1", Told.NUMBER);
        Told.noHouse(both + ";knows 0 ^7 0 1", Told.NUMBER);
        Told.noHouse(both + ";knows 0 0 ^10 1", Told.NUMBER);
        Told.noHouse(both + ";knows 0 0 0 ^0", Told.NUMBER);
        Told.noHouse(both + ";knows 0 0 0 ^100", Told.NUMBER);
        ForgetHeirs x = Due.with(both + ";knows 0 0 0 1;knows 6 6 9 99;knows 6 0 9 1;knows 0 6 0 99");
        due("as 0", x.knows(0, 0, 0), 0);
        due("STRENGTH 1", x.knows(0, 0, 1), 1);
        due("as 9", x.knows(6, 6, 0), 9);
        due("STRENGTH 99", x.knows(6, 6, 1), 99);
        due("as 9", x.knows(6, 0, 0), 9);
        due("STRENGTH 99", x.knows(0, 6, 1), 99);
        due("what HEIR 0 knows", x.heir(0, 4), 65);
        due("what HEIR 1 knows", x.heir(1, 4), 0);
    }

    private static void lastToldOfTheSame() {
        Doc.says(Doc.TERMS, "of the same the last told).");
        ForgetHeirs x = Due.with("house 1;thing 1 0 0;heir 0 0;knows 0 0 9 99;knows 0 0 1 1");
        due("as the last told", x.knows(0, 0, 0), 1);
        due("as strong as that, though less", x.knows(0, 0, 1), 1);
        // Of another HEIR, or of another THING, it is not the same.
        x = Due.with("house 1;thing 1 0 0;thing 1 0 0;heir 0 0;heir 0 0;knows 0 0 9 99;knows 1 0 8 98;knows 0 1 7 97");
        due("the first told", x.knows(0, 0, 0), 9);
        due("the second told", x.knows(1, 0, 1), 98);
        due("the third told", x.knows(0, 1, 1), 97);
    }

    private static void sevenThings() {
        Doc.says(Doc.TERMS, "THINGS 0 to 6,");
        due("no THINGS", Due.with("house 1").count(0), 0);
        due("one THING", Due.with("house 1;thing 0 0 0").count(0), 1);
        ForgetHeirs x = Due.with(THINGS);
        due("seven THINGS", x.count(0), 7);
        due("THING 6", x.thing(6, 0), 0);
        due("THING 7", x.thing(7, 0), -2);
        Told.noHouse(THINGS + ";^thing 0 0 0", Told.CLAUSE_TOO_MANY);
    }

    private static void sevenHeirs() {
        Doc.says(Doc.TERMS, "HEIRS 0 to 6,");
        due("no HEIRS", Due.with("house 1").count(1), 0);
        due("one HEIR", Due.with("house 1;heir 0 0").count(1), 1);
        ForgetHeirs x = Due.with(HEIRS);
        due("seven HEIRS", x.count(1), 7);
        due("HEIR 6", x.heir(6, 0), 0);
        due("HEIR 7", x.heir(7, 0), NONE);
        Told.noHouse(HEIRS + ";^heir 0 0", Told.CLAUSE_TOO_MANY);
    }

    private static void tenTwos() {
        Doc.says(Doc.TERMS, "COUSINS (twos) 0 to 9, in the order told.");
        due("no COUSINS", Due.with(HEIRS).count(2), 0);
        ForgetHeirs x = Due.with(HEIRS + TEN_TWOS);
        due("ten twos", x.count(2), 10);
        int[] cousins = {66, 69, 74, 68, 96, 80, 63};
        for (int heir = 0; heir < 7; heir++) {
            due("cousins of " + heir, x.heir(heir, 3), cousins[heir]);
        }
        Told.noHouse(HEIRS + TEN_TWOS + ";^cousins 3 4", Told.CLAUSE_TOO_MANY);
        Told.noHouse(HEIRS + TEN_TWOS + ";^cousins 9 9", Told.CLAUSE_TOO_MANY);
    }

    private static void inPlaceOfTheOther() {
        Doc.says(Doc.TERMS, "It is YEAR 0.");
        Doc.says(4, "The TAPE, which is empty then, is the HOUSE in place of the one there was (YEAR 0, nothing to be "
            + "UNDONE; the RULE IN FORCE, x, IMAGES stay): how many HEIRS;");
        ForgetHeirs x = Told.by(FULL, "fade 2");
        due("image of the first", x.image(3), 0);
        x.seed(2147483647);
        for (int i = 0; i < 3; i++) {
            x.year();
        }
        x.burn(6);
        due("YEAR of the first", x.count(5), 3);
        due("the other", Due.house(x, "house 2"), 0);
        Due.counts("of the other", x, 0, 0, 0, 1, 0, 0, 2, 0, 0, 0, 2147483647, 0);
        due("undo", x.undo(), NONE);
        due("the first again", Due.house(x, FULL), 7);
        due("its YEAR", x.count(5), 0);
        due("not BURNT", x.thing(6, 4), 0);
        due("not STRUCK", x.count(7), 127);
        due("AGE", x.heir(6, 0), 0);
        due("known as told", x.knows(6, 6, 1), 9);
        due("back to the image", x.back(3), 0);
        due("x of the image", x.count(10), 0);
        // Of what the first HOUSE told nothing is left.
        due("one who knows", Due.house(x, "house 1;thing 0 0 0;heir 0 0;knows 0 0 9 99"), 1);
        due("the other, as large", Due.house(x, THINGS + HEIRS.substring(7)), 7);
        for (int i = 0; i < 7; i++) {
            due("known of the first", x.heir(i, 4), 0);
            due("cousins of the first", x.heir(i, 3), 0);
            due("song of the first", x.thing(i, 3), 0);
        }
        due("twos of the first", x.count(2), 0);
    }
}
