import java.util.ArrayList;
import java.util.List;
import java.util.function.ToLongFunction;

/** The bounds of part II: who HOLDS, what a YEAR does, and the ACTS. */
final class YearBounds {
    private static final int NONE = ForgetHeirs.NONE;
    private static final String THREE = "house 3;thing 4 0 0;heir 0 0;heir 0 0;heir 0 0";
    /** HEIR 3's cousins are 0, 1, 2, 4, 5 and 6; 6's is 5, too. */
    private static final String STAR = "house 1;thing 1 0 0" + ";heir 0 0".repeat(7)
        + ";cousins 3 0;cousins 3 1;cousins 3 2;cousins 3 4;cousins 3 5;cousins 3 6;cousins 5 6";

    private YearBounds() {
    }

    static void test() {
        holds();
        lossIsHeld();
        strengthEnds();
        withoutTest();
        askedAhead();
        fadeAlone();
        halvesDownwards();
        eachItsOwn();
        ages();
        byRuleNotHalved();
        ageEnds();
        struck();
        last();
        yearIs999();
        tellNeedsLess();
        tellHalf();
        tellWithLove();
        tellGoesOn();
        tellGoesOnToThree();
        tellGoesNoFurther();
        prompts();
        asks();
        burns();
        acts();
        eachUndone();
        lastTwenty();
    }

    private static void due(String call, long got, long want) {
        Due.due(call, got, want);
    }

    private static void holds() {
        Doc.says(Doc.TERMS, "An HEIR HOLDS a THING that is not STRUCK, if they know it as it was, or as another HEIR "
            + "does, too (two who agree on a lie hold it).");
        String[] known = {"", ";knows 0 0 4 1", ";knows 0 0 5 99", ";knows 0 0 5 1;knows 1 0 6 1",
            ";knows 0 0 5 1;knows 2 0 5 1", ";knows 0 0 5 1;knows 1 0 5 1;knows 2 0 5 1",
            ";knows 0 0 5 1;knows 1 0 4 1;knows 2 0 5 1", ";knows 0 0 5 1;knows 1 0 4 1;knows 2 0 6 1"};
        int[] holders = {0, 1, 0, 0, 5, 7, 7, 2};
        for (int i = 0; i < known.length; i++) {
            ForgetHeirs x = Due.with(THREE + known[i]);
            due("who HOLDS it by " + known[i], x.thing(0, 6), holders[i]);
            due("all together", x.count(8), Integer.bitCount(holders[i]));
            for (int heir = 0; heir < 3; heir++) {
                due("what " + heir + " HOLDS", x.heir(heir, 5), holders[i] >> heir & 1);
            }
        }
        // A lie that it was 0, of one alone, whether others know it or not.
        String zero = "house 1;thing 4 0 0;thing 4 0 0;thing 4 0 0;heir 0 0;heir 0 0;knows 0 2 0 9";
        due("0 by one", Due.with(zero).thing(2, 6), 0);
        due("0 by one, 4 by another", Due.with(zero + ";knows 1 2 4 9").thing(2, 6), 2);
        due("0 by one, 1 by another", Due.with(zero + ";knows 1 2 1 9").thing(2, 6), 0);
        due("0 by two", Due.with(zero + ";knows 1 2 0 9").thing(2, 6), 3);
        due("0 by two, as 0 to 6", Due.with(zero + ";knows 1 2 0 9").heir(1, 5), 4);
        // The same lie about another THING is another lie.
        ForgetHeirs x = Due.with("house 1;thing 4 0 0;thing 4 0 0;heir 0 0;heir 0 0;knows 0 0 5 9;knows 1 1 5 9");
        due("two THINGS", x.count(8), 0);
        // One lies alone: it is STRUCK, and nobody HOLDS it when another agrees later.
        x = Due.with(THREE + ";cousins 0 1;knows 0 0 5 9");
        due("year", x.year(), 1);
        due("tell", x.tell(0, 1, 0, true), 1);
        due("known", x.heir(1, 4), 1);
        due("not HELD", x.heir(1, 5), 0);
        due("not HELD", x.thing(0, 6), 0);
    }

    private static ForgetHeirs one(int strength, String rule) {
        return Told.by("house 1;thing 1 5 0;heir 0 0;knows 0 0 1 " + strength, rule);
    }

    private static void lossIsHeld() {
        Doc.says(Doc.TERMS, "A YEAR: (1) each HEIR's STRENGTH of each THING they know is less by so much (held to 0 to "
            + "99;");
        String[] sums = {"0", "1", "98", "99", "100", "99999", "0 - 1", "0 - 99999", "65536 * 65536 + 5",
            "65536 * 32768", "0 - 65536 * 65536 + 7", "65536 * 65536 * 32768 * 65536", "65536 * 65536 * 65536 * 65536"};
        int[] left = {99, 98, 1, 0, 0, 0, 99, 99, 0, 0, 99, 99, 99};
        for (int i = 0; i < sums.length; i++) {
            ForgetHeirs x = one(99, "fade " + sums[i]);
            x.year();
            due("left of 99 by " + sums[i], x.knows(0, 0, 1), left[i]);
        }
        // A loss below 0 gives nothing.
        ForgetHeirs x = one(50, "fade 0 - 20");
        x.year();
        due("left of 50", x.knows(0, 0, 1), 50);
    }

    private static void strengthEnds() {
        Doc.says(Doc.TERMS, "at 0 or below they know it no more):");
        int[] losses = {19, 20, 21, 99};
        int[] left = {1, 0, 0, 0};
        for (int i = 0; i < losses.length; i++) {
            ForgetHeirs x = one(20, "fade " + losses[i]);
            due("struck", x.year(), left[i] == 0 ? 1 : 0);
            due("left of 20 by " + losses[i], x.knows(0, 0, 1), left[i]);
            due("as what", x.knows(0, 0, 0), left[i] == 0 ? NONE : 1);
            due("known", x.heir(0, 4), left[i]);
        }
    }

    private static void withoutTest() {
        Doc.says(Doc.TERMS, "by the RULE IN FORCE the SUM of its first CLAUSE without a TEST, or whose TEST holds "
            + "(0 without;");
        String[] rules = {"fade 7", "fade 7 if 1=2", "fade 7 if 1=1", "fade 7 if 1=2;fade 8", "fade 7 if 1=1;fade 8",
            "fade 7;fade 8 if 1=1", "fade 7 if 1=2;fade 8 if 1=1;fade 9 if 1=1", "fade 7 if 1=2;fade 8 if 1=2"};
        int[] losses = {7, 0, 7, 8, 7, 7, 8, 0};
        for (int i = 0; i < rules.length; i++) {
            ForgetHeirs x = one(50, rules[i]);
            x.year();
            due("lost by " + rules[i], 50 - x.knows(0, 0, 1), losses[i]);
        }
    }

    private static void askedAhead() {
        Doc.says(Doc.TERMS, "all asked by how it is ahead of (1));");
        // The two forget at once: of each the other's knowledge counts still.
        ForgetHeirs x = Told.by("house 1;thing 1 0 0;heir 20 0;heir 0 0;knows 0 0 1 10;knows 1 0 1 10",
            "fade 10 if same = 1 and year = 0 and [age = 20 or age = 0]");
        due("struck", x.year(), 1);
        due("the first", x.knows(0, 0, 1), 0);
        due("the second", x.knows(1, 0, 1), 0);
        // Of one HEIR two THINGS: THINGS they know are two for both.
        x = Told.by("house 1;thing 1 0 0;thing 1 0 0;heir 0 0;knows 0 0 1 10;knows 0 1 1 10", "fade 10 if known = 2");
        due("both struck", x.year(), 2);
    }

    /** What is lost in a YEAR of STRENGTH 90, with a FADE and an AGE. */
    private static int lost(int fade, int age, boolean burnt, boolean song, boolean hates, String rule) {
        ForgetHeirs x = Due.with("house 1;thing 1 " + fade + " 0;heir " + age + " 0;knows 0 0 1 90" + (song ? ";song 0" : "")
            + (hates ? ";hates 0" : ""));
        if (burnt) {
            x.burn(0);
        }
        if (!rule.isEmpty()) {
            Due.rule(x, rule);
            x.force(0);
        }
        x.year();
        return 90 - x.knows(0, 0, 1);
    }

    private static void fadeAlone() {
        Doc.says(Doc.TERMS, "without a RULE its FADE, twice that if its portrait is BURNT,");
        int[] fades = {0, 1, 19, 20};
        for (int fade : fades) {
            due("lost by FADE " + fade, lost(fade, 0, false, false, false, ""), fade);
            due("lost, BURNT, by FADE " + fade, lost(fade, 0, true, false, false, ""), 2 * fade);
        }
    }

    private static void halvesDownwards() {
        Doc.says(Doc.TERMS, "of that half (downwards) if it is a song, and AGE / 20 more, of all that who hates half "
            + "(downwards;");
        int[] fades = {0, 1, 2, 3, 7, 20};
        int[] songs = {0, 0, 1, 1, 3, 10};
        int[] songsOfWhoHate = {0, 0, 0, 0, 1, 5};
        int[] songsOfOld = {3, 3, 4, 4, 6, 13};
        int[] ofWhoHate = {0, 0, 1, 1, 3, 10};
        int[] ofOldWhoHate = {1, 2, 2, 3, 5, 11};
        int[] songsOfOldWhoHate = {1, 1, 2, 2, 3, 6};
        for (int i = 0; i < fades.length; i++) {
            due("a song's FADE " + fades[i], lost(fades[i], 0, false, true, false, ""), songs[i]);
            due("a song's, BURNT", lost(fades[i], 0, true, true, false, ""), fades[i]);
            due("a song's, AGE 60", lost(fades[i], 60, false, true, false, ""), songsOfOld[i]);
            due("by who hates", lost(fades[i], 0, false, false, true, ""), ofWhoHate[i]);
            due("by who hates, BURNT", lost(fades[i], 0, true, false, true, ""), fades[i]);
            due("a song's by who hates", lost(fades[i], 0, false, true, true, ""), songsOfWhoHate[i]);
            due("by who hates, AGE 60", lost(fades[i], 60, false, false, true, ""), ofOldWhoHate[i]);
            due("a song's by who hates, AGE 60", lost(fades[i], 60, false, true, true, ""), songsOfOldWhoHate[i]);
        }
    }

    /** Of each HEIR and each THING its own: FADE, song, portrait, AGE, hatred. */
    private static void eachItsOwn() {
        ForgetHeirs x = Due.with("house 1;thing 1 3 0;thing 2 20 0;thing 3 11 0;thing 4 7 0;song 1;song 3;heir 5 0;heir 45 0"
            + ";heir 99 0;hates 1;knows 0 0 1 90;knows 0 1 2 80;knows 0 2 3 70;knows 0 3 4 60;knows 1 0 1 91;knows 1 1 2 81"
            + ";knows 1 2 3 71;knows 1 3 4 61;knows 2 0 1 92;knows 2 1 2 82;knows 2 2 3 72;knows 2 3 4 62");
        x.burn(0);
        x.burn(1);
        x.year();
        int[] fades = {6, 20, 11, 3};
        int[] more = {0, 2, 4};
        for (int heir = 0; heir < 3; heir++) {
            for (int thing = 0; thing < 4; thing++) {
                int lost = (fades[thing] + more[heir]) / (heir == 1 ? 2 : 1);
                due("left to " + heir + " of " + thing, x.knows(heir, thing, 1), 90 - 10 * thing + heir - lost);
                due("as what", x.knows(heir, thing, 0), thing + 1);
            }
        }
    }

    private static void ages() {
        Doc.says(Doc.TERMS, "and AGE / 20 more,");
        int[] ages = {0, 1, 19, 20, 39, 40, 59, 60, 79, 80, 98, 99};
        int[] more = {0, 0, 0, 1, 1, 2, 2, 3, 3, 4, 4, 4};
        for (int i = 0; i < ages.length; i++) {
            due("AGE " + ages[i], lost(0, ages[i], false, false, false, ""), more[i]);
            due("AGE " + ages[i] + ", BURNT", lost(5, ages[i], true, false, false, ""), 10 + more[i]);
        }
    }

    private static void byRuleNotHalved() {
        Doc.says(Doc.TERMS, "by a RULE not).");
        due("of who hates", lost(0, 0, false, false, true, "fade 7"), 7);
        due("of who hates, old, of a song that is BURNT", lost(20, 99, true, true, true, "fade 7"), 7);
        due("FADE and AGE alone by words", lost(20, 99, true, true, true, "fade loss"), 20);
    }

    private static void ageEnds() {
        Doc.says(Doc.TERMS, "(2) each AGE is 1 more (99 at most).");
        ForgetHeirs x = Due.with("house 1;heir 0 0;heir 97 0;heir 98 0;heir 99 0");
        int[][] ages = {{1, 98, 99, 99}, {2, 99, 99, 99}, {3, 99, 99, 99}};
        for (int[] age : ages) {
            x.year();
            for (int heir = 0; heir < 4; heir++) {
                due("AGE of " + heir, x.heir(heir, 0), age[heir]);
            }
        }
        // Of AGE 99 it is 4 more, for ever.
        x = Due.with("house 1;thing 1 0 0;heir 99 0;knows 0 0 1 99");
        due("strike", x.strike(0), 24);
    }

    private static void struck() {
        Doc.says(Doc.TERMS, "(3) each THING that nobody HOLDS then is STRUCK.");
        Doc.says(10, "A YEAR: how many THINGS were STRUCK in it;");
        // All seven at once; each in the YEAR it is held no more; none twice.
        ForgetHeirs x = Due.with("house 1" + ";thing 1 1 1".repeat(7));
        due("all", x.year(), 7);
        due("none twice", x.year(), 0);
        due("not STRUCK", x.count(7), 0);
        for (int thing = 0; thing < 7; thing++) {
            due("STRUCK in", x.thing(thing, 5), 0);
        }
        x = Due.with("house 1;thing 1 1 1;thing 1 1 1;heir 0 0;heir 0 0;knows 0 0 1 2;knows 1 1 1 3;knows 0 1 2 99");
        int[] struck = {0, 1, 1, 0};
        int[] standing = {3, 2, 0, 0};
        for (int year = 0; year < struck.length; year++) {
            due("STRUCK in YEAR " + year, x.year(), struck[year]);
            due("not STRUCK then", x.count(7), standing[year]);
        }
        due("the first in", x.thing(0, 5), 1);
        due("the second in", x.thing(1, 5), 2);
        due("known as a lie still", x.heir(0, 4), 2);
    }

    private static void last() {
        Doc.says(Doc.TERMS, "YEAR is 1 more");
        ForgetHeirs x = Due.with("house 1");
        for (int year = 1; year <= 21; year++) {
            due("year", x.year(), 0);
            due("YEAR", x.count(5), year);
        }
    }

    /** No run of 512 calls comes so far; it is tried all the same. */
    private static ForgetHeirs late() {
        ForgetHeirs x = Told.by("house 1;thing 1 9 5;heir 0 0;knows 0 0 1 50", "fade 0");
        Due.rule(x, "fade 1 if year >= 999");
        for (int i = 0; i < 998; i++) {
            x.year();
        }
        return x;
    }

    private static ForgetHeirs latest() {
        ForgetHeirs x = late();
        x.year();
        return x;
    }

    private static void yearIs999() {
        Doc.says(Doc.TERMS, "(999 at most by an ACT; YEARS that are asked or drawn go on).");
        Doc.says(10, "NONE, and nothing happens, without a HOUSE, or at YEAR 999.");
        ForgetHeirs x = late();
        due("YEAR", x.count(5), 998);
        due("year", x.year(), 0);
        due("YEAR", x.count(5), 999);
        Deep.refuses("year at 999", YearBounds::latest, ForgetHeirs::year, NONE);
        Deep.refuses("year without a HOUSE", ForgetHeirs::new, ForgetHeirs::year, NONE);
        x.force(1);
        due("strike", x.strike(0), 999 + 49);
        due("inherits in", x.inherits(1), 999 + 49);
        due("ahead", x.ahead(0, 49), 1);
        due("ahead", x.ahead(0, 50), 0);
        due("drawn", x.drawn(1, 49, 0), 1);
        due("drawn", x.drawn(1, 50, 0), 0);
        due("undo", x.undo(), 19);
        due("year again", x.year(), 0);
        due("YEAR", x.count(5), 999);
    }

    private static void tellNeedsLess() {
        Doc.says(Doc.TERMS, "TELL: an HEIR tells a cousin a THING they know: who does not know it, or with less STRENGTH "
            + "than the teller's, knows it as the teller does,");
        int[] strengths = {1, 49, 50, 51, 99};
        int[] takes = {1, 1, 0, 0, 0};
        for (int i = 0; i < strengths.length; i++) {
            for (int love = 0; love < 2; love++) {
                ForgetHeirs x = Due.with(THREE + ";cousins 1 0;knows 0 0 5 50;knows 1 0 4 " + strengths[i]);
                due("tell who knows it by " + strengths[i], x.tell(0, 1, 0, love == 1), takes[i]);
                due("as what", x.knows(1, 0, 0), takes[i] == 1 ? 5 : 4);
                due("how strongly", x.knows(1, 0, 1), takes[i] == 0 ? strengths[i] : love == 1 ? 50 : 25);
                due("the teller's", x.knows(0, 0, 1), 50);
                due("an ACT", x.count(9), 1);
            }
        }
        ForgetHeirs x = Due.with(THREE + ";cousins 1 0;knows 0 0 5 1");
        due("tell who does not know it", x.tell(0, 1, 0, true), 1);
        due("how strongly", x.knows(1, 0, 1), 1);
        // As strong is not less, though they know it the same or otherwise.
        due("tell back", x.tell(1, 0, 0, true), 0);
    }

    private static void tellHalf() {
        Doc.says(Doc.TERMS, "with half the teller's STRENGTH (downwards, 1 at least),");
        int[] strengths = {1, 2, 3, 4, 5, 98, 99};
        int[] halves = {1, 1, 1, 2, 2, 49, 49};
        for (int i = 0; i < strengths.length; i++) {
            ForgetHeirs x = Due.with(THREE + ";cousins 1 0;knows 0 0 4 " + strengths[i]);
            due("tell of " + strengths[i], x.tell(0, 1, 0, false), 1);
            due("half of " + strengths[i], x.knows(1, 0, 1), halves[i]);
        }
    }

    private static void tellWithLove() {
        Doc.says(Doc.TERMS, "with love with all of it;");
        int[] strengths = {1, 2, 99};
        for (int strength : strengths) {
            ForgetHeirs x = Due.with(THREE + ";cousins 1 0;knows 0 0 4 " + strength);
            due("tell of " + strength, x.tell(0, 1, 0, true), 1);
            due("all of " + strength, x.knows(1, 0, 1), strength);
        }
    }

    private static void tellGoesOn() {
        Doc.says(Doc.TERMS, "told with love, and not as it was, it goes on at once from that one (if they took it)");
        ForgetHeirs x = Due.with(STAR + ";knows 0 0 5 60");
        due("a lie with love", x.tell(0, 3, 0, true), 4);
        x = Due.with(STAR + ";knows 0 0 5 60");
        due("a lie without love", x.tell(0, 3, 0, false), 1);
        x = Due.with(STAR + ";knows 0 0 1 60");
        due("as it was, with love", x.tell(0, 3, 0, true), 1);
        x = Due.with(STAR + ";knows 0 0 5 60;knows 3 0 5 60");
        due("a lie they did not take", x.tell(0, 3, 0, true), 0);
        due("not told on", x.heir(1, 4), 0);
        x = Due.with(STAR + ";knows 0 0 5 60;knows 3 0 5 59");
        due("a lie they took", x.tell(0, 3, 0, true), 4);
    }

    private static void tellGoesOnToThree() {
        Doc.says(Doc.TERMS, "to the three least of their cousins (without the teller), with half of their STRENGTH each "
            + "likewise");
        int[] tellers = {0, 1, 2, 4, 6};
        int[] told = {2 + 4 + 16, 1 + 4 + 16, 1 + 2 + 16, 1 + 2 + 4, 1 + 2 + 4};
        for (int i = 0; i < tellers.length; i++) {
            ForgetHeirs x = Due.with(STAR + ";knows " + tellers[i] + " 0 5 61");
            due("told by " + tellers[i], x.tell(tellers[i], 3, 0, true), 4);
            for (int heir = 0; heir < 7; heir++) {
                int strength = heir == tellers[i] || heir == 3 ? 61 : (told[i] >> heir & 1) * 30;
                due("strength of " + heir, x.knows(heir, 0, 1), strength);
                due("as what of " + heir, x.knows(heir, 0, 0), strength == 0 ? NONE : 5);
            }
        }
        // Of two more cousins, of one, of none.
        String few = "house 1;thing 1 0 0" + ";heir 0 0".repeat(4) + ";knows 1 0 5 61";
        due("two more", Due.with(few + ";cousins 0 1;cousins 0 2;cousins 0 3").tell(1, 0, 0, true), 3);
        due("one more", Due.with(few + ";cousins 0 1;cousins 0 2").tell(1, 0, 0, true), 2);
        due("none more", Due.with(few + ";cousins 0 1").tell(1, 0, 0, true), 1);
        // Likewise: who knows it as strongly does not take it, nor does a fourth one in their place.
        ForgetHeirs x = Due.with(STAR + ";knows 0 0 5 61;knows 1 0 1 61;knows 2 0 1 60;knows 4 0 1 99");
        due("one of three", x.tell(0, 3, 0, true), 2);
        int[] strengths = {61, 61, 30, 61, 99, 0, 0};
        for (int heir = 0; heir < 7; heir++) {
            due("strength of " + heir, x.knows(heir, 0, 1), strengths[heir]);
        }
        x = Due.with(STAR + ";knows 0 0 5 1");
        due("1 at least", x.tell(0, 3, 0, true), 4);
        due("of a half", x.knows(1, 0, 1), 1);
    }

    private static void tellGoesNoFurther() {
        Doc.says(Doc.TERMS, "(and no further).");
        // 6 tells 5, who tells 3; 3's other cousins, and 6, are not told by them.
        ForgetHeirs x = Due.with(STAR + ";knows 6 0 5 61");
        due("a lie with love", x.tell(6, 5, 0, true), 2);
        int[] strengths = {0, 0, 0, 30, 0, 61, 61};
        for (int heir = 0; heir < 7; heir++) {
            due("strength of " + heir, x.knows(heir, 0, 1), strengths[heir]);
        }
    }

    private static void prompts() {
        Doc.says(Doc.TERMS, "PROMPT: a STRENGTH of one is 10 more (99 at most).");
        int[] strengths = {1, 88, 89, 90, 98, 99};
        int[] then = {11, 98, 99, 99, 99, 99};
        for (int i = 0; i < strengths.length; i++) {
            ForgetHeirs x = Due.with("house 1;thing 1 0 0;thing 1 0 0;thing 1 0 0;heir 0 0;heir 0 0;knows 1 2 1 "
                + strengths[i] + ";knows 1 1 1 5;knows 0 2 1 5");
            due("prompt of " + strengths[i], x.prompt(1, 2), then[i]);
            due("strength", x.knows(1, 2, 1), then[i]);
            due("as what", x.knows(1, 2, 0), 1);
            due("of another THING", x.knows(1, 1, 1), 5);
            due("of another HEIR", x.knows(0, 2, 1), 5);
            due("an ACT", x.count(9), 1);
        }
    }

    private static void asks() {
        Doc.says(Doc.TERMS, "ASK: notaries have one ASK less; who does not know it as it was knows it no more then.");
        Doc.says(13, "ASK: as what they know it (10: not);");
        for (int as = 0; as <= 9; as++) {
            ForgetHeirs x = Due.with("house 1;thing 4 0 0;heir 0 0;knows 0 0 " + as + " 99");
            due("ask of " + as, x.ask(0, 0), as);
            due("ASKS then", x.count(6), 0);
            due("known then", x.knows(0, 0, 0), as == 4 ? 4 : NONE);
            due("STRENGTH then", x.knows(0, 0, 1), as == 4 ? 99 : 0);
            due("undo", x.undo(), 0);
            due("ASKS again", x.count(6), 1);
            due("known again", x.knows(0, 0, 1), 99);
        }
        ForgetHeirs x = Due.with("house 1;thing 0 0 0;heir 0 0");
        due("ask who does not know", x.ask(0, 0), 10);
        // HEIR 1 of THING 2: others, and of others, stay.
        x = Due.with("house 9;thing 1 0 0;thing 2 0 0;thing 3 0 0;heir 0 0;heir 0 0;knows 1 2 5 9;knows 0 2 6 9;knows 1 1 7 9");
        due("ask", x.ask(1, 2), 5);
        due("known then", x.heir(1, 4), 2);
        due("known to another", x.knows(0, 2, 0), 6);
        due("ask another", x.ask(0, 2), 6);
        due("ask of another", x.ask(1, 1), 7);
        due("ask again", x.ask(1, 1), 10);
        due("ASKS", x.count(6), 5);
        x = Due.with("house 20;thing 0 0 0;heir 0 0");
        for (int asks = 19; asks >= 0; asks--) {
            due("ask", x.ask(0, 0), 10);
            due("ASKS", x.count(6), asks);
        }
        due("a 21st", x.ask(0, 0), NONE);
        due("ASKS", x.count(6), 0);
        due("ACTS", x.count(9), 20);
    }

    private static void burns() {
        Doc.says(Doc.TERMS, "BURN the portrait of a THING.");
        Doc.says(14, "BURN: true; false, and nothing happens, without that THING, or if it was.");
        ForgetHeirs x = Due.with("house 1" + ";thing 1 1 1".repeat(7));
        Due.due("burn 6", x.burn(6), true);
        Due.due("burn 0", x.burn(0), true);
        Due.due("burn 0 again", x.burn(0), false);
        for (int thing = 0; thing < 7; thing++) {
            due("BURNT " + thing, x.thing(thing, 4), thing % 6 == 0 ? 1 : 0);
        }
        due("ACTS", x.count(9), 2);
        due("undo", x.undo(), 1);
        Due.due("burn 0 after that", x.burn(0), true);
    }

    /** Every ACT is one, also a TELL that nobody took, a PROMPT at 99 and an ASK of who knows nothing. */
    private static void acts() {
        Doc.says(Doc.TERMS, "ACTS: a YEAR, TELL, PROMPT, ASK, BURN.");
        ForgetHeirs x = Due.with(THREE + ";cousins 0 1;knows 0 0 4 99;knows 1 0 4 99");
        due("tell", x.tell(0, 1, 0, true), 0);
        due("ACTS", x.count(9), 1);
        due("prompt", x.prompt(0, 0), 99);
        due("ACTS", x.count(9), 2);
        due("ask", x.ask(2, 0), 10);
        due("ACTS", x.count(9), 3);
        Due.due("burn", x.burn(0), true);
        due("ACTS", x.count(9), 4);
        due("year", x.year(), 0);
        due("ACTS", x.count(9), 5);
        // What is no ACT is not UNDONE.
        x.seed(5);
        x.image(0);
        Due.rule(x, "fade 1");
        x.force(0);
        x.feed(0, 0, 0, 0, 0);
        due("ACTS", x.count(9), 5);
        for (int more = 4; more >= 0; more--) {
            due("undo", x.undo(), more);
        }
        due("undo none", x.undo(), NONE);
        Due.counts("when all is UNDONE", x, 1, 3, 1, 1, 0, 0, 3, 1, 2, 0, 5, 20);
    }

    /** Each ACT by itself, UNDONE: all is as it was. */
    private static void eachUndone() {
        List<ToLongFunction<ForgetHeirs>> acts = List.of(ForgetHeirs::year, x -> x.tell(1, 2, 2, false),
            x -> x.tell(2, 1, 1, true), x -> x.prompt(2, 1), x -> x.ask(2, 1), x -> x.ask(0, 2), x -> x.burn(2) ? 1 : 0,
            x -> x.tell(1, 0, 2, true), x -> x.prompt(0, 0), x -> x.burn(1) ? 1 : 0, ForgetHeirs::year);
        ForgetHeirs x = CallBounds.rich();
        while (x.undo() >= 0) {
            due("more", x.count(9) >= 0 ? 1 : 0, 1);
        }
        List<String> faces = new ArrayList<>();
        for (ToLongFunction<ForgetHeirs> act : acts) {
            faces.add(Deep.face(x));
            due("an ACT", act.applyAsLong(x) >= 0 ? 1 : 0, 1);
            due("ACTS", x.count(9), faces.size());
        }
        for (int i = acts.size() - 1; i >= 0; i--) {
            due("undo " + i, x.undo(), i);
            Due.due("as it was ahead of " + i, Deep.face(x).equals(faces.get(i)), true);
        }
    }

    private static void lastTwenty() {
        Doc.says(Doc.TERMS, "The last 20 can be UNDONE, the last first.");
        Doc.says(15, "The last ACT is UNDONE: how many more can be; NONE, and nothing happens: none can.");
        int[] acts = {1, 19, 20, 21, 41};
        for (int many : acts) {
            ForgetHeirs x = Due.with("house 1;thing 1 0 0;heir 0 0;knows 0 0 1 99");
            for (int i = 0; i < many; i++) {
                x.year();
            }
            int can = Math.min(20, many);
            due("can be UNDONE of " + many, x.count(9), can);
            for (int more = can - 1; more >= 0; more--) {
                due("undo", x.undo(), more);
                due("YEAR", x.count(5), many - can + more);
                due("AGE", x.heir(0, 0), many - can + more);
            }
            due("undo none", x.undo(), NONE);
            due("YEAR", x.count(5), many - can);
        }
        Deep.refuses("undo of nothing done", () -> Due.with(HouseBounds.FULL), ForgetHeirs::undo, NONE);
        Deep.refuses("undo without a HOUSE", ForgetHeirs::new, ForgetHeirs::undo, NONE);
        // Of twenty one is UNDONE, and another done: twenty again.
        ForgetHeirs x = Due.with("house 1");
        for (int i = 0; i < 25; i++) {
            x.year();
        }
        due("undo", x.undo(), 19);
        x.year();
        x.year();
        due("ACTS", x.count(9), 20);
        due("undo", x.undo(), 19);
        due("YEAR", x.count(5), 25);
    }
}
