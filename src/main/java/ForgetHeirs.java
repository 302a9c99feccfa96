import java.util.Arrays;

/**
 * A house that falls to the heir who forgets the dead last. The words in
 * capitals (HOUSE, YEAR, HOLDS ..) are those of ../shared/DOC.md.
 */
public final class ForgetHeirs {
    public static final int NONE = -1;

    private static final int MANY = 7;
    private static final int CELLS = MANY * MANY;
    private static final int MOST_STRENGTH = 99;
    private static final int MOST_AGE = 99;
    private static final int MOST_LOSS = 99;
    private static final int MOST_RULES = 6;
    private static final int MOST_IMAGES = 4;
    private static final int LAST_YEAR = 999;
    private static final int FAR = 200;
    private static final int NEVER = 1000000;
    private static final int TWOS_OF_HEIRS = MANY * (MANY - 1) / 2;

    private final Tape tape;
    private final HouseReader houseReader;
    private final RuleReader ruleReader;
    private final Rule[] rules = new Rule[MOST_RULES];
    private final Years years = new Years();
    private final State now = new State();
    private final State later = new State();
    private final Past past = new Past();
    private final Image[] images = new Image[MOST_IMAGES];
    private final int[] unlike = new int[TWOS_OF_HEIRS];
    private final Forests forests = new Forests();
    private House estate = new House();
    private int ruleCount = 0;
    private int inForce = NONE;
    private int x = 0;

    public ForgetHeirs() {
        Tape shared = new Tape();
        tape = shared;
        houseReader = new HouseReader(shared);
        ruleReader = new RuleReader(shared);
        for (int k = 0; k < MOST_IMAGES; k++) {
            images[k] = new Image();
        }
    }

    // ---- the TAPE, the HOUSE and the RULES ----

    public int feed(int a, int b, int c, int d, int e) {
        if (tape.size + 20 > Tape.ROOM) {
            return NONE;
        }
        tape.append(a);
        tape.append(b);
        tape.append(c);
        tape.append(d);
        tape.append(e);
        return tape.size;
    }

    public int end(int n) {
        if (n < 0 || n > tape.size) {
            return NONE;
        }
        tape.size = n;
        return n;
    }

    public int house() {
        House told = houseReader.read();
        tape.size = 0;
        if (told == null) {
            return -2 - tape.fault;
        }
        estate = told;
        now.copy(houseReader.state);
        past.clear();
        return estate.heirs;
    }

    public int rule() {
        if (ruleCount >= rules.length) {
            return NONE;
        }
        Rule told = ruleReader.read();
        tape.size = 0;
        if (told == null) {
            return -2 - tape.fault;
        }
        rules[ruleCount] = told;
        ruleCount++;
        return ruleCount - 1;
    }

    public int force(int rule) {
        if (rule < NONE || rule >= ruleCount) {
            return -2;
        }
        int was = inForce;
        inForce = rule;
        return was;
    }

    // ---- what stands ----

    public int heir(int heir, int what) {
        if (!isHeir(heir)) {
            return NONE;
        }
        switch (what) {
            case 0:
                return now.age[heir];
            case 1:
                return estate.drink[heir];
            case 2:
                return bit(estate.haters, heir);
            case 3:
                return estate.cousins[heir];
            case 4:
                return now.knownBy(estate, heir);
            case 5:
                return now.heldBy(estate, heir);
            default:
                return NONE;
        }
    }

    public int thing(int thing, int what) {
        if (!isThing(thing)) {
            return -2;
        }
        switch (what) {
            case 0:
                return estate.so[thing];
            case 1:
                return estate.fade[thing];
            case 2:
                return estate.field[thing];
            case 3:
                return bit(estate.songs, thing);
            case 4:
                return bit(now.burnt, thing);
            case 5:
                return now.struck[thing];
            case 6:
                return now.holdersOf(estate, thing);
            default:
                return -2;
        }
    }

    public int knows(int heir, int thing, int what) {
        if (!isHeir(heir) || !isThing(thing) || what < 0 || what > 1) {
            return -2;
        }
        int cell = heir * MANY + thing;
        if (now.strength[cell] == 0) {
            return what == 0 ? NONE : 0;
        }
        return what == 0 ? now.as[cell] : now.strength[cell];
    }

    public int count(int what) {
        switch (what) {
            case 0:
                return estate.things;
            case 1:
                return estate.heirs;
            case 2:
                return estate.twos;
            case 3:
                return ruleCount;
            case 4:
                return inForce;
            case 5:
                return now.year;
            case 6:
                return now.asks;
            case 7:
                return now.standing(estate);
            case 8:
                return now.heldTogether(estate);
            case 9:
                return past.size;
            case 10:
                return x;
            case 11:
                return tape.size;
            default:
                return NONE;
        }
    }

    // ---- ACTS ----

    public int year() {
        if (!estate.told || now.year >= LAST_YEAR) {
            return NONE;
        }
        past.keep(now);
        return years.pass(estate, now, ruleInForce());
    }

    public int tell(int one, int other, int thing, boolean love) {
        if (!isHeir(other) || !isKnown(one, thing) || bit(estate.cousins[one], other) == 0) {
            return NONE;
        }
        past.keep(now);
        if (!now.takes(other, one, thing, love)) {
            return 0;
        }
        if (!love || now.as[one * MANY + thing] == estate.so[thing]) {
            return 1;
        }
        return 1 + spread(other, one, thing);
    }

    private int spread(int teller, int without, int thing) {
        int took = 0;
        int asked = 0;
        for (int heir = 0; heir < estate.heirs && asked < 3; heir++) {
            if (heir != without && bit(estate.cousins[teller], heir) == 1) {
                asked++;
                if (now.takes(heir, teller, thing, false)) {
                    took++;
                }
            }
        }
        return took;
    }

    public int prompt(int heir, int thing) {
        if (!isKnown(heir, thing)) {
            return NONE;
        }
        past.keep(now);
        int cell = heir * MANY + thing;
        now.strength[cell] = prompted(now.strength[cell]);
        return now.strength[cell];
    }

    public int ask(int heir, int thing) {
        if (!isHeir(heir) || !isThing(thing) || now.asks < 1) {
            return NONE;
        }
        past.keep(now);
        int answer = isKnown(heir, thing) ? now.as[heir * MANY + thing] : 10;
        now.asks--;
        now.isAsked(estate, heir, thing);
        return answer;
    }

    public boolean burn(int thing) {
        if (!isThing(thing) || bit(now.burnt, thing) == 1) {
            return false;
        }
        past.keep(now);
        now.burnt |= 1 << thing;
        return true;
    }

    public int undo() {
        return past.giveBack(now) ? past.size : NONE;
    }

    // ---- YEARS ahead ----

    public int ahead(int heir, int n) {
        if (!isHeir(heir) || n < 0 || n > FAR) {
            return NONE;
        }
        lookAhead(n);
        return later.heldBy(estate, heir);
    }

    public int strike(int thing) {
        if (!isThing(thing)) {
            return NONE;
        }
        later.copy(now);
        int when = strikeLater(thing);
        return when == NONE ? -2 : when;
    }

    public int inherits(int what) {
        if (what < 0 || what > 1 || !estate.told) {
            return NONE;
        }
        if (!now.isAnyHeld(estate)) {
            return -2;
        }
        later.copy(now);
        int who = NONE;
        int when = NONE;
        for (int i = 0; i < FAR && later.isAnyHeld(estate); i++) {
            who = later.holdsMost(estate);
            when = later.year;
            years.pass(estate, later, ruleInForce());
        }
        if (later.isAnyHeld(estate)) {
            return -3;
        }
        return what == 0 ? who : when;
    }

    public int longest() {
        if (!estate.told) {
            return NONE;
        }
        if (estate.things == 0) {
            return -2;
        }
        lookAhead(FAR);
        int best = 0;
        for (int thing = 1; thing < estate.things; thing++) {
            if (later.lasts(thing) > later.lasts(best)) {
                best = thing;
            }
        }
        return best;
    }

    public int fields(int n) {
        if (n < 0 || n > FAR || !estate.told) {
            return NONE;
        }
        lookAhead(n);
        int together = 0;
        for (int thing = 0; thing < estate.things; thing++) {
            if (later.struck[thing] == NONE) {
                together += estate.field[thing];
            }
        }
        return together;
    }

    public int cost(int thing) {
        if (!isThing(thing)) {
            return -2000;
        }
        if (bit(now.burnt, thing) == 1 || now.struck[thing] != NONE) {
            return 0;
        }
        later.copy(now);
        int whole = strikeLater(thing);
        later.copy(now);
        later.burnt |= 1 << thing;
        int burnt = strikeLater(thing);
        return whole == NONE || burnt == NONE ? -1000 : whole - burnt;
    }

    public int prompts(int heir, int thing, int n) {
        if (!isKnown(heir, thing) || n < 1 || n > 40) {
            return NONE;
        }
        if (ruleInForce() != null) {
            return -3;
        }
        int strength = now.strength[heir * MANY + thing];
        int prompts = 0;
        // As late as they can, they lose nothing at the most STRENGTH; ten reach it from anywhere.
        for (int i = 0; i < n; i++) {
            int age = Math.min(MOST_AGE, now.age[heir] + i);
            int loss = estate.plainLoss(heir, thing, age, now.burnt);
            for (int j = 0; j < 10 && strength <= loss; j++) {
                strength = prompted(strength);
                prompts++;
            }
            if (strength <= loss) {
                return -2;
            }
            strength -= loss;
        }
        return prompts;
    }

    /** Once all is STRUCK, nothing that is asked of later YEARS changes. */
    private void lookAhead(int n) {
        later.copy(now);
        for (int i = 0; i < n && later.standing(estate) != 0; i++) {
            years.pass(estate, later, ruleInForce());
        }
    }

    private int strikeLater(int thing) {
        for (int i = 0; i < FAR && later.struck[thing] == NONE; i++) {
            years.pass(estate, later, ruleInForce());
        }
        return later.struck[thing];
    }

    // ---- what is asked of now ----

    public int falls(int heir) {
        if (!isHeir(heir)) {
            return NONE;
        }
        later.copy(now);
        for (int thing = 0; thing < estate.things; thing++) {
            later.forget(heir, thing);
        }
        int falling = 0;
        for (int thing = 0; thing < estate.things; thing++) {
            if (now.holdersOf(estate, thing) != 0 && later.holdersOf(estate, thing) == 0) {
                falling |= 1 << thing;
            }
        }
        return falling;
    }

    public int examine(int what) {
        if (what < 0 || what > 2 || !estate.told) {
            return NONE;
        }
        if (estate.heirs == 0 || estate.things == 0) {
            return -2;
        }
        int best = 0;
        int fewest = heldBehindAsk(0);
        for (int cell = 1; cell < estate.heirs * MANY; cell++) {
            if (cell % MANY < estate.things) {
                int held = heldBehindAsk(cell);
                if (held < fewest) {
                    best = cell;
                    fewest = held;
                }
            }
        }
        if (what == 2) {
            return fewest;
        }
        return what == 0 ? best / MANY : best % MANY;
    }

    private int heldBehindAsk(int cell) {
        later.copy(now);
        later.isAsked(estate, cell / MANY, cell % MANY);
        return later.heldTogether(estate);
    }

    public int likeliest(int thing, int what) {
        if (!isThing(thing) || what < 0 || what > 1) {
            return NONE;
        }
        int best = NONE;
        int most = 0;
        for (int as = 0; as <= 9; as++) {
            int together = now.strengthAs(estate, thing, as);
            if (together > most) {
                best = as;
                most = together;
            }
        }
        if (best == NONE) {
            return -2;
        }
        return what == 0 ? best : most;
    }

    public int parts(int heirs, int what) {
        if (heirs < 0 || heirs >= 1 << estate.heirs || what < 0 || what > 1) {
            return NONE;
        }
        int twos = fillUnlike(heirs);
        int best = NONE;
        for (int set = 0; set < 1 << estate.things; set++) {
            boolean fewer = best == NONE || Integer.bitCount(set) < Integer.bitCount(best);
            if (fewer && partsAll(set, twos)) {
                best = set;
            }
        }
        if (best == NONE) {
            return -2;
        }
        return what == 0 ? Integer.bitCount(best) : best;
    }

    private int fillUnlike(int heirs) {
        int twos = 0;
        for (int one = 0; one < estate.heirs; one++) {
            for (int other = one + 1; other < estate.heirs; other++) {
                if (bit(heirs, one) == 1 && bit(heirs, other) == 1 && twos < unlike.length) {
                    unlike[twos] = now.knownUnlike(estate, one, other);
                    twos++;
                }
            }
        }
        return twos;
    }

    private boolean partsAll(int set, int twos) {
        for (int i = 0; i < twos && i < unlike.length; i++) {
            if ((unlike[i] & set) == 0) {
                return false;
            }
        }
        return true;
    }

    public int ways(int thing) {
        if (!isThing(thing)) {
            return NONE;
        }
        forests.clear(estate.heirs);
        for (int one = 0; one < estate.heirs; one++) {
            for (int other = one + 1; other < estate.heirs; other++) {
                if (bit(sharers(one, thing), other) == 1) {
                    forests.join(one, other);
                }
            }
        }
        return forests.howMany();
    }

    public int taught(int heir, int thing) {
        if (!isHeir(heir) || !isThing(thing)) {
            return -4;
        }
        if (!now.errs(estate, heir, thing)) {
            return -3;
        }
        // In some way all made it up: so no cousin is the teller in all ways.
        return sharers(heir, thing) == 0 ? NONE : -2;
    }

    /** Cousins, as bits, who know a THING as the same as one who errs in it. */
    private int sharers(int heir, int thing) {
        if (!now.errs(estate, heir, thing)) {
            return 0;
        }
        return estate.cousins[heir] & now.knowersAs(estate, thing, now.as[heir * MANY + thing]);
    }

    // ---- DRAWS ----

    public int seed(int x) {
        if (x < 0) {
            return NONE;
        }
        int was = this.x;
        this.x = x;
        return was;
    }

    public int drawn(int m, int n, int what) {
        if (m < 1 || m > 10 || n < 1 || n > 60 || what < 0 || what > 1 || !estate.told) {
            return NONE;
        }
        int kept = x;
        int together = 0;
        for (int i = 0; i < m; i++) {
            later.copy(now);
            for (int j = 0; j < n; j++) {
                drinkLater();
                years.pass(estate, later, ruleInForce());
            }
            together += what == 0 ? Integer.bitCount(later.standing(estate)) : later.heldTogether(estate);
        }
        x = kept;
        return together;
    }

    private void drinkLater() {
        for (int heir = 0; heir < estate.heirs; heir++) {
            boolean drunk = draw() % 100 < estate.drink[heir];
            if (drunk && estate.things > 0) {
                later.forget(heir, draw() % estate.things);
            }
        }
    }

    private int draw() {
        x = (int) ((x * 1103515245L + 12345L) % 2147483648L);
        return x / 65536;
    }

    // ---- IMAGES ----

    public int image(int k) {
        if (k < 0 || k >= images.length) {
            return NONE;
        }
        Image image = images[k];
        image.estate = estate;
        image.state.copy(now);
        image.inForce = inForce;
        image.x = x;
        return now.year;
    }

    public int back(int k) {
        if (k < 0 || k >= images.length) {
            return NONE;
        }
        Image image = images[k];
        if (image.estate == null) {
            return NONE;
        }
        estate = image.estate;
        now.copy(image.state);
        inForce = image.inForce;
        x = image.x;
        past.clear();
        return now.year;
    }

    // ---- small things ----

    private boolean isHeir(int heir) {
        return heir >= 0 && heir < estate.heirs;
    }

    private boolean isThing(int thing) {
        return thing >= 0 && thing < estate.things;
    }

    private boolean isKnown(int heir, int thing) {
        return isHeir(heir) && isThing(thing) && now.strength[heir * MANY + thing] > 0;
    }

    private Rule ruleInForce() {
        return inForce >= 0 && inForce < ruleCount ? rules[inForce] : null;
    }

    private static int prompted(int strength) {
        return Math.min(MOST_STRENGTH, strength + 10);
    }

    private static int bit(int bits, int place) {
        return bits >> place & 1;
    }

    /** What a HOUSE told that no ACT changes; once read it stays, so that IMAGES can share it. */
    private static final class House {
        final int[] so = new int[MANY];
        final int[] fade = new int[MANY];
        final int[] field = new int[MANY];
        final int[] drink = new int[MANY];
        final int[] cousins = new int[MANY];
        boolean told = false;
        int things = 0;
        int heirs = 0;
        int twos = 0;
        int songs = 0;
        int haters = 0;

        /** What an HEIR loses of a THING in a YEAR without a RULE. */
        int plainLoss(int heir, int thing, int age, int burnt) {
            int loss = bit(burnt, thing) == 1 ? fade[thing] * 2 : fade[thing];
            if (bit(songs, thing) == 1) {
                loss /= 2;
            }
            loss += age / 20;
            return bit(haters, heir) == 1 ? loss / 2 : loss;
        }
    }

    /** What ACTS change. A cell is an HEIR's of a THING; of STRENGTH 0 they know it not. */
    private static final class State {
        final int[] as = new int[CELLS];
        final int[] strength = new int[CELLS];
        final int[] age = new int[MANY];
        final int[] struck = new int[MANY];
        int burnt = 0;
        int year = 0;
        int asks = 0;

        void copy(State from) {
            System.arraycopy(from.as, 0, as, 0, CELLS);
            System.arraycopy(from.strength, 0, strength, 0, CELLS);
            System.arraycopy(from.age, 0, age, 0, MANY);
            System.arraycopy(from.struck, 0, struck, 0, MANY);
            burnt = from.burnt;
            year = from.year;
            asks = from.asks;
        }

        void clear() {
            for (int cell = 0; cell < CELLS; cell++) {
                as[cell] = 0;
                strength[cell] = 0;
            }
            for (int i = 0; i < MANY; i++) {
                age[i] = 0;
                struck[i] = NONE;
            }
            burnt = 0;
            year = 0;
            asks = 0;
        }

        void learn(int heir, int thing, int what, int howStrongly) {
            as[heir * MANY + thing] = what;
            strength[heir * MANY + thing] = howStrongly;
        }

        void forget(int heir, int thing) {
            learn(heir, thing, 0, 0);
        }

        /** Whether one takes what a teller, who knows it, tells. */
        boolean takes(int heir, int teller, int thing, boolean whole) {
            int force = strength[teller * MANY + thing];
            if (strength[heir * MANY + thing] >= force) {
                return false;
            }
            learn(heir, thing, as[teller * MANY + thing], whole ? force : Math.max(1, force / 2));
            return true;
        }

        void isAsked(House estate, int heir, int thing) {
            if (errs(estate, heir, thing)) {
                forget(heir, thing);
            }
        }

        boolean errs(House estate, int heir, int thing) {
            int cell = heir * MANY + thing;
            return strength[cell] > 0 && as[cell] != estate.so[thing];
        }

        int knownBy(House estate, int heir) {
            int known = 0;
            for (int thing = 0; thing < estate.things; thing++) {
                if (strength[heir * MANY + thing] > 0) {
                    known |= 1 << thing;
                }
            }
            return known;
        }

        int knowersAs(House estate, int thing, int what) {
            int knowers = 0;
            for (int heir = 0; heir < estate.heirs; heir++) {
                int cell = heir * MANY + thing;
                if (strength[cell] > 0 && as[cell] == what) {
                    knowers |= 1 << heir;
                }
            }
            return knowers;
        }

        int strengthAs(House estate, int thing, int what) {
            int together = 0;
            for (int heir = 0; heir < estate.heirs; heir++) {
                int cell = heir * MANY + thing;
                if (as[cell] == what) {
                    together += strength[cell];
                }
            }
            return together;
        }

        /** THINGS, as bits, that two HEIRS know unlike; that neither knows is alike. */
        int knownUnlike(House estate, int one, int other) {
            int found = 0;
            for (int thing = 0; thing < estate.things; thing++) {
                int a = one * MANY + thing;
                int b = other * MANY + thing;
                boolean both = strength[a] > 0 && strength[b] > 0;
                boolean neither = strength[a] == 0 && strength[b] == 0;
                if (!neither && !(both && as[a] == as[b])) {
                    found |= 1 << thing;
                }
            }
            return found;
        }

        int holdersOf(House estate, int thing) {
            if (struck[thing] != NONE) {
                return 0;
            }
            int good = heldAs(estate, thing);
            int holders = 0;
            for (int heir = 0; heir < estate.heirs; heir++) {
                int cell = heir * MANY + thing;
                if (strength[cell] > 0 && bit(good, as[cell]) == 1) {
                    holders |= 1 << heir;
                }
            }
            return holders;
        }

        /** As what, as bits, a THING must be known to be HELD: as it was, or as two know it. */
        private int heldAs(House estate, int thing) {
            int told = 0;
            int shared = 0;
            for (int heir = 0; heir < estate.heirs; heir++) {
                int cell = heir * MANY + thing;
                if (strength[cell] > 0) {
                    shared |= told & 1 << as[cell];
                    told |= 1 << as[cell];
                }
            }
            return shared | 1 << estate.so[thing];
        }

        int heldBy(House estate, int heir) {
            int held = 0;
            for (int thing = 0; thing < estate.things; thing++) {
                if (bit(holdersOf(estate, thing), heir) == 1) {
                    held |= 1 << thing;
                }
            }
            return held;
        }

        int heldTogether(House estate) {
            int together = 0;
            for (int thing = 0; thing < estate.things; thing++) {
                together += Integer.bitCount(holdersOf(estate, thing));
            }
            return together;
        }

        boolean isAnyHeld(House estate) {
            for (int thing = 0; thing < estate.things; thing++) {
                if (holdersOf(estate, thing) != 0) {
                    return true;
                }
            }
            return false;
        }

        int holdsMost(House estate) {
            int best = NONE;
            int most = 0;
            for (int heir = 0; heir < estate.heirs; heir++) {
                int held = Integer.bitCount(heldBy(estate, heir));
                if (held > most) {
                    best = heir;
                    most = held;
                }
            }
            return best;
        }

        int standing(House estate) {
            int things = 0;
            for (int thing = 0; thing < estate.things; thing++) {
                if (struck[thing] == NONE) {
                    things |= 1 << thing;
                }
            }
            return things;
        }

        int lasts(int thing) {
            return struck[thing] == NONE ? NEVER : struck[thing];
        }
    }

    /** How a YEAR goes by. */
    private static final class Years {
        private final int[] losses = new int[CELLS];
        private final Reckoner reckoner = new Reckoner();

        int pass(House estate, State state, Rule rule) {
            weigh(estate, state, rule);
            fadeAll(estate, state);
            for (int heir = 0; heir < estate.heirs; heir++) {
                state.age[heir] = Math.min(MOST_AGE, state.age[heir] + 1);
            }
            int struck = strikeForgotten(estate, state);
            state.year++;
            return struck;
        }

        /** All losses are known before the first is taken: a RULE asks how it was ahead of them. */
        private void weigh(House estate, State state, Rule rule) {
            for (int heir = 0; heir < estate.heirs; heir++) {
                for (int thing = 0; thing < estate.things; thing++) {
                    int cell = heir * MANY + thing;
                    if (state.strength[cell] == 0) {
                        losses[cell] = 0;
                    } else if (rule == null) {
                        losses[cell] = estate.plainLoss(heir, thing, state.age[heir], state.burnt);
                    } else {
                        reckoner.look(estate, state, heir, thing);
                        losses[cell] = (int) Math.max(0L, Math.min(MOST_LOSS, reckoner.loss(rule)));
                    }
                }
            }
        }

        private void fadeAll(House estate, State state) {
            for (int heir = 0; heir < estate.heirs; heir++) {
                for (int thing = 0; thing < estate.things; thing++) {
                    int cell = heir * MANY + thing;
                    if (losses[cell] < state.strength[cell]) {
                        state.strength[cell] -= losses[cell];
                    } else {
                        state.forget(heir, thing);
                    }
                }
            }
        }

        private int strikeForgotten(House estate, State state) {
            int count = 0;
            for (int thing = 0; thing < estate.things; thing++) {
                if (state.struck[thing] == NONE && state.holdersOf(estate, thing) == 0) {
                    state.struck[thing] = state.year;
                    count++;
                }
            }
            return count;
        }
    }

    /** The last ACTS' States, in a ring: the oldest one makes room. */
    private static final class Past {
        private static final int ROOM = 20;
        private final State[] states = new State[ROOM];
        private int next = 0;
        int size = 0;

        Past() {
            for (int i = 0; i < ROOM; i++) {
                states[i] = new State();
            }
        }

        void clear() {
            size = 0;
        }

        void keep(State state) {
            states[next].copy(state);
            next = (next + 1) % ROOM;
            size = Math.min(ROOM, size + 1);
        }

        boolean giveBack(State state) {
            if (size == 0) {
                return false;
            }
            size--;
            next = (next + ROOM - 1) % ROOM;
            state.copy(states[next]);
            return true;
        }
    }

    /** An IMAGE; without an estate it was never made. */
    private static final class Image {
        final State state = new State();
        House estate = null;
        int inForce = NONE;
        int x = 0;
    }

    /** Counts in how many ways joined HEIRS had a lie of one another: each of one, or of nobody. */
    private static final class Forests {
        private final long[] rows = new long[CELLS];
        private int many = 0;

        void clear(int heirs) {
            many = Math.min(MANY, heirs);
            for (int i = 0; i < CELLS; i++) {
                rows[i] = i / MANY == i % MANY ? 1 : 0;
            }
        }

        void join(int one, int other) {
            rows[one * MANY + one]++;
            rows[other * MANY + other]++;
            rows[one * MANY + other]--;
            rows[other * MANY + one]--;
        }

        /**
         * The ways are the rooted forests of the joins, and these are as many as the determinant
         * of 1 + the joins' Laplacian (the matrix forest theorem); it is taken in whole numbers
         * (Bareiss), where each division leaves no rest and no pivot is 0.
         */
        int howMany() {
            long last = 1;
            for (int k = 0; k < many; k++) {
                long pivot = rows[k * MANY + k];
                if (pivot == 0 || last == 0) {
                    return 0;
                }
                for (int i = k + 1; i < many; i++) {
                    for (int j = k + 1; j < many; j++) {
                        long crossed = rows[i * MANY + k] * rows[k * MANY + j];
                        rows[i * MANY + j] = (rows[i * MANY + j] * pivot - crossed) / last;
                    }
                }
                last = pivot;
            }
            return (int) last;
        }
    }

    /** The TAPE's bytes, the signs, NUMBERS and WORDS they are split into, and the reader's place in these. */
    private static final class Tape {
        static final int ROOM = 400;
        static final int BAD_SIGN = 0;
        static final int BAD_NUMBER = 1;
        static final int TOO_DEEP = 2;
        static final int TOO_MANY_VALUES = 3;
        static final int TOO_MANY_CLAUSES = 4;

        /** A sign's kind is its byte; these others lie above the bytes. */
        static final int END = 256;
        static final int NUMBER = 257;
        static final int AT_MOST = 258;
        static final int AT_LEAST = 259;
        static final int UNKNOWN_WORD = 260;
        static final int FIRST_WORD = 261;
        /** The kinds of WORDS, as they stand in the text below; the first ones are a RULE's VALUES. */
        static final int HEIR = FIRST_WORD;
        static final int THING = FIRST_WORD + 1;
        static final int HATES = FIRST_WORD + 6;
        static final int SONG = FIRST_WORD + 7;
        static final int VALUE_WORDS = 14;
        static final int HOUSE = FIRST_WORD + 14;
        static final int COUSINS = FIRST_WORD + 15;
        static final int KNOWS = FIRST_WORD + 16;
        static final int FADE = FIRST_WORD + 17;
        static final int IF = FIRST_WORD + 18;
        static final int NOT = FIRST_WORD + 19;
        static final int AND = FIRST_WORD + 20;
        static final int OR = FIRST_WORD + 21;
        private static final String WORDS =
            "heir thing as right strength age hates song burnt loss field year same known house cousins knows fade if not and or ";
        private static final int MOST_DIGITS = 5;
        private static final int TOO_MUCH = 1000000;

        private final byte[] bytes = new byte[ROOM];
        private final int[] kinds = new int[ROOM + 1];
        private final int[] places = new int[ROOM + 1];
        private final int[] values = new int[ROOM + 1];
        private int pieces = 0;
        private int at = 0;
        int size = 0;
        int fault = 0;

        void append(int number) {
            for (int shift = 24; shift >= 0 && size < ROOM; shift -= 8) {
                bytes[size] = (byte) (number >> shift);
                size++;
            }
        }

        /** Splits the bytes, and puts the reader ahead of the first piece. */
        void split() {
            pieces = 0;
            at = 0;
            fault = 0;
            int place = 0;
            for (int i = 0; i < ROOM && place < size; i++) {
                int sign = byteAt(place);
                int to = isLetter(sign) || isDigit(sign) ? endOfRun(place) : place + 1;
                if (isLetter(sign)) {
                    add(wordKind(place, to), place, 0);
                } else if (isDigit(sign)) {
                    add(NUMBER, place, valueOf(place, to));
                } else if ((sign == '<' || sign == '>') && byteAt(to) == '=') {
                    add(sign == '<' ? AT_MOST : AT_LEAST, place, 0);
                    to++;
                } else if (sign != ' ') {
                    add(sign, place, 0);
                }
                place = to;
            }
            add(END, size, 0);
        }

        private void add(int kind, int place, int value) {
            if (pieces < kinds.length) {
                kinds[pieces] = kind;
                places[pieces] = place;
                values[pieces] = value;
                pieces++;
            }
        }

        private int byteAt(int i) {
            return i >= 0 && i < size && i < ROOM ? bytes[i] & 255 : END;
        }

        /** Where the letters, or the digits, from a place on end. */
        private int endOfRun(int from) {
            boolean letters = isLetter(byteAt(from));
            for (int i = from + 1; i < size; i++) {
                if (letters ? !isLetter(byteAt(i)) : !isDigit(byteAt(i))) {
                    return i;
                }
            }
            return size;
        }

        /** Of more digits than it may have: more than any NUMBER may be. */
        private int valueOf(int from, int to) {
            if (to - from > MOST_DIGITS) {
                return TOO_MUCH;
            }
            int value = 0;
            for (int i = from; i < to; i++) {
                value = value * 10 + byteAt(i) - '0';
            }
            return value;
        }

        private int wordKind(int from, int to) {
            int kind = FIRST_WORD;
            int same = 0;
            for (int i = 0; i < WORDS.length(); i++) {
                char sign = WORDS.charAt(i);
                if (sign == ' ') {
                    if (same == to - from) {
                        return kind;
                    }
                    kind++;
                    same = 0;
                } else if (same >= 0 && from + same < to && byteAt(from + same) == sign) {
                    same++;
                } else {
                    same = NONE;
                }
            }
            return UNKNOWN_WORD;
        }

        private static boolean isLetter(int sign) {
            return sign >= 'a' && sign <= 'z';
        }

        private static boolean isDigit(int sign) {
            return sign >= '0' && sign <= '9';
        }

        int kind() {
            return at < pieces ? kinds[at] : END;
        }

        int place() {
            return at < pieces ? places[at] : size;
        }

        void next() {
            if (at < pieces - 1) {
                at++;
            }
        }

        boolean isFaulty() {
            return fault != 0;
        }

        /** Only the first FAULT counts: it is the first along the text, and of its place the least. */
        void blame(int where, int what) {
            if (fault == 0) {
                fault = 1 + 8 * where + what;
            }
        }

        /** The next NUMBER, which is to be of a range; NONE with a FAULT. */
        int number(int least, int most) {
            if (isFaulty()) {
                return NONE;
            }
            if (kind() != NUMBER || at >= pieces) {
                blame(place(), BAD_SIGN);
                return NONE;
            }
            int value = values[at];
            if (value < least || value > most) {
                blame(place(), BAD_NUMBER);
                return NONE;
            }
            next();
            return value;
        }

        void expect(int kind) {
            if (kind() != kind) {
                blame(place(), BAD_SIGN);
            }
            next();
        }

        /** Goes over the sign between two CLAUSES; false at the end, or with a FAULT. */
        boolean goesOn() {
            if (!isFaulty() && kind() == END) {
                return false;
            }
            expect(';');
            return !isFaulty();
        }
    }

    /** Reads a HOUSE from the TAPE. */
    private static final class HouseReader {
        private static final int MOST_CLAUSES = 40;
        private static final int MOST_TWOS = 10;
        private final Tape text;
        private House estate = new House();
        final State state = new State();

        HouseReader(Tape text) {
            this.text = text;
        }

        /** The HOUSE, its State beside it; null: the TAPE has the FAULT. */
        House read() {
            text.split();
            estate = new House();
            state.clear();
            boolean more = true;
            for (int clause = 1; clause <= MOST_CLAUSES + 1 && more; clause++) {
                readClause(clause);
                more = text.goesOn();
            }
            if (text.isFaulty()) {
                return null;
            }
            estate.told = true;
            return estate;
        }

        private void readClause(int clause) {
            int word = text.kind();
            if (!isClause(word)) {
                text.blame(text.place(), Tape.BAD_SIGN);
            } else if (clause > MOST_CLAUSES || (word == Tape.HOUSE) != (clause == 1) || isFull(word)) {
                text.blame(text.place(), Tape.TOO_MANY_CLAUSES);
            } else {
                text.next();
                readNumbers(word);
            }
        }

        private static boolean isClause(int word) {
            return word == Tape.HOUSE || word == Tape.THING || word == Tape.SONG || word == Tape.HEIR
                || word == Tape.HATES || word == Tape.COUSINS || word == Tape.KNOWS;
        }

        private boolean isFull(int word) {
            return word == Tape.THING && estate.things >= MANY
                || word == Tape.HEIR && estate.heirs >= MANY
                || word == Tape.COUSINS && estate.twos >= MOST_TWOS;
        }

        private void readNumbers(int word) {
            switch (word) {
                case Tape.HOUSE:
                    state.asks = text.number(1, 20);
                    break;
                case Tape.THING:
                    readThing();
                    break;
                case Tape.SONG:
                    estate.songs |= bitOf(text.number(0, estate.things - 1));
                    break;
                case Tape.HEIR:
                    readHeir();
                    break;
                case Tape.HATES:
                    estate.haters |= bitOf(text.number(0, estate.heirs - 1));
                    break;
                case Tape.COUSINS:
                    readCousins();
                    break;
                default:
                    readKnows();
                    break;
            }
        }

        private static int bitOf(int place) {
            return place < 0 ? 0 : 1 << place;
        }

        private void readThing() {
            int so = text.number(0, 9);
            int fade = text.number(0, 20);
            int field = text.number(0, 99);
            if (!text.isFaulty() && estate.things < MANY) {
                estate.so[estate.things] = so;
                estate.fade[estate.things] = fade;
                estate.field[estate.things] = field;
                estate.things++;
            }
        }

        private void readHeir() {
            int age = text.number(0, MOST_AGE);
            int drink = text.number(0, 100);
            if (!text.isFaulty() && estate.heirs < MANY) {
                state.age[estate.heirs] = age;
                estate.drink[estate.heirs] = drink;
                estate.heirs++;
            }
        }

        private void readCousins() {
            int one = text.number(0, estate.heirs - 1);
            int start = text.place();
            int other = text.number(0, estate.heirs - 1);
            if (text.isFaulty() || one < 0 || other < 0) {
                return;
            }
            if (one == other || bit(estate.cousins[one], other) == 1) {
                text.blame(start, Tape.BAD_NUMBER);
                return;
            }
            estate.cousins[one] |= 1 << other;
            estate.cousins[other] |= 1 << one;
            estate.twos++;
        }

        private void readKnows() {
            int heir = text.number(0, estate.heirs - 1);
            int thing = text.number(0, estate.things - 1);
            int as = text.number(0, 9);
            int strength = text.number(1, MOST_STRENGTH);
            if (!text.isFaulty() && heir >= 0 && thing >= 0) {
                state.learn(heir, thing, as, strength);
            }
        }
    }

    /** A RULE as steps for a stack: behind two values what joins them. */
    private static final class Rule {
        static final int NUMBER = 0;
        static final int WORD = 1;
        static final int ADD = 2;
        static final int SUBTRACT = 3;
        static final int TIMES = 4;
        static final int DIVIDE = 5;
        static final int REST = 6;
        static final int LESS = 7;
        static final int AT_MOST = 8;
        static final int EQUAL = 9;
        static final int AT_LEAST = 10;
        static final int MORE = 11;
        static final int AND = 12;
        static final int OR = 13;
        static final int NOT = 14;

        /** A step is one of the above; of NUMBER and WORD, which one stands above these four bits. */
        final int[] steps;
        /** Of each CLAUSE where its SUM begins, where its TEST does, and where that ends. */
        final int[] marks;

        Rule(int[] steps, int[] marks) {
            this.steps = steps;
            this.marks = marks;
        }
    }

    /** Reads a RULE from the TAPE. */
    private static final class RuleReader {
        private static final int MOST_CLAUSES = 12;
        private static final int MOST_VALUES = 60;
        private static final int MOST_DEEP = 10;
        /** What is joined: PARTS by or, FACTS by and, TERMS by + and -, VALUES by * and / and %. */
        private static final int PARTS = 0;
        private static final int FACTS = 1;
        private static final int TERMS = 2;
        private static final int VALUES = 3;
        private final Tape text;
        private final int[] steps = new int[Tape.ROOM];
        private final int[] marks = new int[3 * MOST_CLAUSES];
        private int length = 0;
        private int marked = 0;
        private int values = 0;

        RuleReader(Tape text) {
            this.text = text;
        }

        /** The RULE; null: the TAPE has the FAULT. */
        Rule read() {
            text.split();
            length = 0;
            marked = 0;
            values = 0;
            boolean more = true;
            for (int clause = 1; clause <= MOST_CLAUSES + 1 && more; clause++) {
                readClause(clause);
                more = text.goesOn();
            }
            if (text.isFaulty()) {
                return null;
            }
            return new Rule(Arrays.copyOf(steps, length), Arrays.copyOf(marks, marked));
        }

        private void readClause(int clause) {
            if (text.kind() != Tape.FADE) {
                text.blame(text.place(), Tape.BAD_SIGN);
                return;
            }
            if (clause > MOST_CLAUSES) {
                text.blame(text.place(), Tape.TOO_MANY_CLAUSES);
                return;
            }
            text.next();
            mark();
            readJoined(TERMS, 0);
            mark();
            if (!text.isFaulty() && text.kind() == Tape.IF) {
                text.next();
                readJoined(PARTS, 0);
            }
            mark();
        }

        private void readJoined(int what, int depth) {
            int joiner = NONE;
            for (int i = 0; i <= Tape.ROOM && !text.isFaulty(); i++) {
                if (what == VALUES) {
                    readValue();
                } else if (what == FACTS) {
                    readFact(depth);
                } else {
                    readJoined(what + 1, depth);
                }
                if (joiner != NONE) {
                    put(joiner);
                }
                joiner = joinerOf(what, text.kind());
                if (joiner == NONE) {
                    return;
                }
                text.next();
            }
        }

        private static int joinerOf(int what, int kind) {
            switch (kind) {
                case Tape.OR:
                    return what == PARTS ? Rule.OR : NONE;
                case Tape.AND:
                    return what == FACTS ? Rule.AND : NONE;
                case '+':
                    return what == TERMS ? Rule.ADD : NONE;
                case '-':
                    return what == TERMS ? Rule.SUBTRACT : NONE;
                case '*':
                    return what == VALUES ? Rule.TIMES : NONE;
                case '/':
                    return what == VALUES ? Rule.DIVIDE : NONE;
                case '%':
                    return what == VALUES ? Rule.REST : NONE;
                default:
                    return NONE;
            }
        }

        private void readFact(int depth) {
            int kind = text.kind();
            if ((kind == '[' || kind == Tape.NOT) && depth >= MOST_DEEP) {
                text.blame(text.place(), Tape.TOO_DEEP);
            } else if (kind == '[') {
                text.next();
                readJoined(PARTS, depth + 1);
                text.expect(']');
            } else if (kind == Tape.NOT) {
                text.next();
                readFact(depth + 1);
                put(Rule.NOT);
            } else {
                readJoined(TERMS, depth);
                int comparing = readComparing();
                readJoined(TERMS, depth);
                put(comparing);
            }
        }

        private int readComparing() {
            int comparing = comparingOf(text.kind());
            if (comparing == NONE) {
                text.blame(text.place(), Tape.BAD_SIGN);
            }
            countValue(text.place());
            text.next();
            return comparing;
        }

        private static int comparingOf(int kind) {
            switch (kind) {
                case '<':
                    return Rule.LESS;
                case Tape.AT_MOST:
                    return Rule.AT_MOST;
                case '=':
                    return Rule.EQUAL;
                case Tape.AT_LEAST:
                    return Rule.AT_LEAST;
                case '>':
                    return Rule.MORE;
                default:
                    return NONE;
            }
        }

        private void readValue() {
            int start = text.place();
            int word = text.kind() - Tape.FIRST_WORD;
            if (word >= 0 && word < Tape.VALUE_WORDS) {
                text.next();
                put(Rule.WORD | word << 4);
            } else {
                put(Rule.NUMBER | text.number(0, 99999) << 4);
            }
            countValue(start);
        }

        private void countValue(int where) {
            values++;
            if (values > MOST_VALUES) {
                text.blame(where, Tape.TOO_MANY_VALUES);
            }
        }

        private void put(int step) {
            if (length < steps.length) {
                steps[length] = step;
                length++;
            }
        }

        private void mark() {
            if (marked < marks.length) {
                marks[marked] = length;
                marked++;
            }
        }
    }

    /** Reckons by a RULE what one HEIR loses of one THING. */
    private static final class Reckoner {
        /** More than can wait: two of each depth, and a FACT's, a SUM's and a TERM's own. */
        private static final int ROOM = 32;
        private final long[] stack = new long[ROOM];
        private final long[] words = new long[Tape.VALUE_WORDS];
        private int top = 0;

        /** Puts the WORDS' values in the order of Tape.WORDS. */
        void look(House estate, State state, int heir, int thing) {
            int cell = heir * MANY + thing;
            words[0] = heir;
            words[1] = thing;
            words[2] = state.as[cell];
            words[3] = state.as[cell] == estate.so[thing] ? 1 : 0;
            words[4] = state.strength[cell];
            words[5] = state.age[heir];
            words[6] = bit(estate.haters, heir);
            words[7] = bit(estate.songs, thing);
            words[8] = bit(state.burnt, thing);
            words[9] = estate.fade[thing];
            words[10] = estate.field[thing];
            words[11] = state.year;
            words[12] = Integer.bitCount(state.knowersAs(estate, thing, state.as[cell])) - 1;
            words[13] = Integer.bitCount(state.knownBy(estate, heir));
        }

        /** The SUM of the first CLAUSE without a TEST, or whose TEST holds. */
        long loss(Rule rule) {
            int[] marks = rule.marks;
            for (int i = 0; i + 2 < marks.length; i += 3) {
                boolean plain = marks[i + 1] == marks[i + 2];
                if (plain || run(rule.steps, marks[i + 1], marks[i + 2]) != 0) {
                    return run(rule.steps, marks[i], marks[i + 1]);
                }
            }
            return 0;
        }

        private long run(int[] steps, int from, int to) {
            top = 0;
            for (int i = from; i >= 0 && i < to && i < steps.length; i++) {
                int kind = steps[i] & 15;
                int which = steps[i] >> 4;
                if (kind == Rule.NUMBER) {
                    push(which);
                } else if (kind == Rule.WORD) {
                    push(which >= 0 && which < words.length ? words[which] : 0);
                } else if (kind == Rule.NOT) {
                    push(1 - pop());
                } else {
                    long right = pop();
                    push(joined(kind, pop(), right));
                }
            }
            return pop();
        }

        private void push(long value) {
            if (top < ROOM) {
                stack[top] = value;
                top++;
            }
        }

        private long pop() {
            if (top < 1) {
                return 0;
            }
            top--;
            return stack[top];
        }

        private static long joined(int kind, long left, long right) {
            switch (kind) {
                case Rule.ADD:
                    return left + right;
                case Rule.SUBTRACT:
                    return left - right;
                case Rule.TIMES:
                    return left * right;
                case Rule.DIVIDE:
                    return right == 0 ? 0 : left / right;
                case Rule.REST:
                    return right == 0 ? 0 : left % right;
                case Rule.LESS:
                    return left < right ? 1 : 0;
                case Rule.AT_MOST:
                    return left <= right ? 1 : 0;
                case Rule.EQUAL:
                    return left == right ? 1 : 0;
                case Rule.AT_LEAST:
                    return left >= right ? 1 : 0;
                case Rule.MORE:
                    return left > right ? 1 : 0;
                case Rule.AND:
                    return left & right;
                default:
                    return left | right;
            }
        }
    }
}
