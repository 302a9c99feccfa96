import java.util.ArrayDeque;
import java.util.ArrayList;
import java.util.Deque;
import java.util.List;
import java.util.TreeMap;

/**
 * The document once more, as slowly and as unlike the program as can be: texts read sign by sign
 * with exceptions, RULES as trees, and all that is asked found by trying everything.
 */
final class HouseModel {
    // ---- texts ----

    static final class Fault extends RuntimeException {
        final int number;

        Fault(int place, int what) {
            super("fault", null, false, false);
            number = 1 + 8 * place + what;
        }
    }

    private static class Reader {
        final int[] text;
        int at = 0;

        Reader(int[] text) {
            this.text = text;
        }

        int peek() {
            while (at < text.length && text[at] == 32) {
                at++;
            }
            return at < text.length ? text[at] : -1;
        }

        String word() {
            StringBuilder word = new StringBuilder();
            peek();
            for (int i = at; i < text.length && text[i] >= 'a' && text[i] <= 'z'; i++) {
                word.append((char) text[i]);
            }
            return word.toString();
        }

        Fault fault(int what) {
            peek();
            return new Fault(at, what);
        }

        boolean take(String word) {
            if (word().equals(word)) {
                at += word.length();
                return true;
            }
            return false;
        }

        boolean take(int sign) {
            if (peek() == sign) {
                at++;
                return true;
            }
            return false;
        }

        int number(int least, int most) {
            peek();
            int start = at;
            long value = 0;
            while (at < text.length && text[at] >= '0' && text[at] <= '9') {
                value = Math.min(1000000, value * 10 + text[at] - '0');
                at++;
            }
            if (at == start) {
                throw new Fault(start, 0);
            }
            if (at - start > 5 || value < least || value > most) {
                throw new Fault(start, 1);
            }
            return (int) value;
        }
    }

    // ---- the HOUSE and its state ----

    static final class Knowledge {
        int as;
        int strength;
    }

    static final class World {
        boolean told;
        int asks;
        int year;
        List<int[]> things = new ArrayList<>(); // so, fade, field, song, burnt, struck
        List<int[]> heirs = new ArrayList<>(); // age, drink, hates
        List<int[]> cousins = new ArrayList<>();
        TreeMap<Integer, Knowledge> knowledge = new TreeMap<>();

        World copy() {
            World other = new World();
            other.told = told;
            other.asks = asks;
            other.year = year;
            for (int[] thing : things) {
                other.things.add(thing.clone());
            }
            for (int[] heir : heirs) {
                other.heirs.add(heir.clone());
            }
            other.cousins.addAll(cousins);
            knowledge.forEach((key, value) -> other.learn(key / 100, key % 100, value.as, value.strength));
            return other;
        }

        void learn(int heir, int thing, int as, int strength) {
            Knowledge it = new Knowledge();
            it.as = as;
            it.strength = strength;
            knowledge.put(heir * 100 + thing, it);
        }

        Knowledge of(int heir, int thing) {
            return knowledge.get(heir * 100 + thing);
        }

        boolean areCousins(int one, int other) {
            for (int[] two : cousins) {
                if (two[0] == one && two[1] == other || two[0] == other && two[1] == one) {
                    return true;
                }
            }
            return false;
        }

        boolean holds(int heir, int thing) {
            Knowledge it = of(heir, thing);
            if (things.get(thing)[5] >= 0 || it == null) {
                return false;
            }
            if (it.as == things.get(thing)[0]) {
                return true;
            }
            for (int other = 0; other < heirs.size(); other++) {
                if (other != heir && of(other, thing) != null && of(other, thing).as == it.as) {
                    return true;
                }
            }
            return false;
        }

        boolean anyHolds(int thing) {
            for (int heir = 0; heir < heirs.size(); heir++) {
                if (holds(heir, thing)) {
                    return true;
                }
            }
            return false;
        }

        int held(int heir) {
            int bits = 0;
            for (int thing = 0; thing < things.size(); thing++) {
                bits += holds(heir, thing) ? 1 << thing : 0;
            }
            return bits;
        }

        int heldTogether() {
            int together = 0;
            for (int heir = 0; heir < heirs.size(); heir++) {
                together += Integer.bitCount(held(heir));
            }
            return together;
        }

        int standing() {
            int bits = 0;
            for (int thing = 0; thing < things.size(); thing++) {
                bits += things.get(thing)[5] < 0 ? 1 << thing : 0;
            }
            return bits;
        }
    }

    static World readHouse(int[] text) {
        Reader in = new Reader(text);
        World world = new World();
        world.told = true;
        int clauses = 0;
        do {
            clauses++;
            String word = in.word();
            if (!List.of("house", "thing", "song", "heir", "hates", "cousins", "knows").contains(word)) {
                throw in.fault(0);
            }
            if (clauses > 40 || word.equals("house") != (clauses == 1)
                || word.equals("thing") && world.things.size() == 7
                || word.equals("heir") && world.heirs.size() == 7
                || word.equals("cousins") && world.cousins.size() == 10) {
                throw in.fault(4);
            }
            in.take(word);
            int lastThing = world.things.size() - 1;
            int lastHeir = world.heirs.size() - 1;
            switch (word) {
                case "house" -> world.asks = in.number(1, 20);
                case "thing" -> world.things.add(
                    new int[] {in.number(0, 9), in.number(0, 20), in.number(0, 99), 0, 0, -1});
                case "song" -> world.things.get(in.number(0, lastThing))[3] = 1;
                case "heir" -> world.heirs.add(new int[] {in.number(0, 99), in.number(0, 100), 0});
                case "hates" -> world.heirs.get(in.number(0, lastHeir))[2] = 1;
                case "cousins" -> {
                    int one = in.number(0, lastHeir);
                    in.peek();
                    int place = in.at;
                    int other = in.number(0, lastHeir);
                    if (one == other || world.areCousins(one, other)) {
                        throw new Fault(place, 1);
                    }
                    world.cousins.add(new int[] {one, other});
                }
                default -> world.learn(in.number(0, lastHeir), in.number(0, lastThing), in.number(0, 9),
                    in.number(1, 99));
            }
        } while (in.take(';'));
        if (in.peek() != -1) {
            throw in.fault(0);
        }
        return world;
    }

    // ---- RULES ----

    record Where(World world, int heir, int thing) {
        long value(String word) {
            Knowledge it = world.of(heir, thing);
            int[] what = world.things.get(thing);
            int[] who = world.heirs.get(heir);
            int same = 0;
            int known = 0;
            for (int key : world.knowledge.keySet()) {
                if (key / 100 == heir) {
                    known++;
                } else if (key % 100 == thing && world.knowledge.get(key).as == it.as) {
                    same++;
                }
            }
            return switch (word) {
                case "heir" -> heir;
                case "thing" -> thing;
                case "as" -> it.as;
                case "right" -> it.as == what[0] ? 1 : 0;
                case "strength" -> it.strength;
                case "age" -> who[0];
                case "hates" -> who[2];
                case "song" -> what[3];
                case "burnt" -> what[4];
                case "loss" -> what[1];
                case "field" -> what[2];
                case "year" -> world.year;
                case "same" -> same;
                case "known" -> known;
                default -> throw new IllegalStateException(word);
            };
        }
    }

    static final List<String> VALUES = List.of("heir", "thing", "as", "right", "strength", "age", "hates", "song",
        "burnt", "loss", "field", "year", "same", "known");

    interface Sum {
        long of(Where where);
    }

    interface Test {
        boolean of(Where where);
    }

    record Clause(Sum sum, Test test) {
    }

    private static final class RuleText extends Reader {
        int counted = 0;

        RuleText(int[] text) {
            super(text);
        }

        List<Clause> clauses() {
            List<Clause> all = new ArrayList<>();
            do {
                if (!word().equals("fade")) {
                    throw fault(0);
                }
                if (all.size() == 12) {
                    throw fault(4);
                }
                take("fade");
                Sum sum = sum();
                all.add(new Clause(sum, take("if") ? test(0) : where -> true));
            } while (take(';'));
            if (peek() != -1) {
                throw fault(0);
            }
            return all;
        }

        void countOne(int place) {
            counted++;
            if (counted > 60) {
                throw new Fault(place, 3);
            }
        }

        Test test(int depth) {
            Test left = part(depth);
            while (take("or")) {
                Test first = left;
                Test second = part(depth);
                left = where -> first.of(where) || second.of(where);
            }
            return left;
        }

        Test part(int depth) {
            Test left = fact(depth);
            while (take("and")) {
                Test first = left;
                Test second = fact(depth);
                left = where -> first.of(where) && second.of(where);
            }
            return left;
        }

        Test fact(int depth) {
            if (depth == 10 && (peek() == '[' || word().equals("not"))) {
                throw fault(2);
            }
            if (take("not")) {
                Test of = fact(depth + 1);
                return where -> !of.of(where);
            }
            if (take('[')) {
                Test of = test(depth + 1);
                if (!take(']')) {
                    throw fault(0);
                }
                return of;
            }
            Sum left = sum();
            peek();
            int place = at;
            boolean less = take('<');
            boolean more = !less && take('>');
            boolean equal = (less || more) ? at < text.length && text[at] == '=' : take('=');
            if (!less && !more && !equal) {
                throw fault(0);
            }
            if ((less || more) && equal) {
                at++;
            }
            countOne(place);
            Sum right = sum();
            return where -> {
                long a = left.of(where);
                long b = right.of(where);
                return less && a < b || more && a > b || equal && a == b;
            };
        }

        Sum sum() {
            Sum left = term();
            while (peek() == '+' || peek() == '-') {
                boolean plus = take('+');
                if (!plus) {
                    take('-');
                }
                Sum first = left;
                Sum second = term();
                left = where -> plus ? first.of(where) + second.of(where) : first.of(where) - second.of(where);
            }
            return left;
        }

        Sum term() {
            Sum left = value();
            while (peek() == '*' || peek() == '/' || peek() == '%') {
                int sign = peek();
                take(sign);
                Sum first = left;
                Sum second = value();
                left = where -> {
                    long a = first.of(where);
                    long b = second.of(where);
                    return sign == '*' ? a * b : b == 0 ? 0 : sign == '/' ? a / b : a % b;
                };
            }
            return left;
        }

        Sum value() {
            int sign = peek();
            int place = at;
            if (sign >= '0' && sign <= '9') {
                long number = number(0, 99999);
                countOne(place);
                return where -> number;
            }
            String word = word();
            if (!VALUES.contains(word)) {
                throw fault(0);
            }
            countOne(place);
            take(word);
            return where -> where.value(word);
        }
    }

    // ---- the object ----

    private record Image(World world, int force, int x) {
    }

    private World world = new World();
    private final List<Integer> tape = new ArrayList<>();
    private final List<List<Clause>> rules = new ArrayList<>();
    private final Deque<World> acts = new ArrayDeque<>();
    private final Image[] images = new Image[4];
    private int force = -1;
    private int x = 0;

    int feed(int... numbers) {
        if (tape.size() > 380) {
            return -1;
        }
        for (int number : numbers) {
            for (int i = 3; i >= 0; i--) {
                tape.add(number >>> 8 * i & 255);
            }
        }
        return tape.size();
    }

    int end(int n) {
        if (n < 0 || n > tape.size()) {
            return -1;
        }
        tape.subList(n, tape.size()).clear();
        return n;
    }

    private int[] takeTape() {
        int[] text = tape.stream().mapToInt(i -> i).toArray();
        tape.clear();
        return text;
    }

    int house() {
        try {
            world = readHouse(takeTape());
            acts.clear();
            return world.heirs.size();
        } catch (Fault fault) {
            return -2 - fault.number;
        }
    }

    int rule() {
        if (rules.size() == 6) {
            return -1;
        }
        try {
            rules.add(new RuleText(takeTape()).clauses());
            return rules.size() - 1;
        } catch (Fault fault) {
            return -2 - fault.number;
        }
    }

    int force(int rule) {
        if (rule < -1 || rule >= rules.size()) {
            return -2;
        }
        int was = force;
        force = rule;
        return was;
    }

    private boolean noHeir(int heir) {
        return heir < 0 || heir >= world.heirs.size();
    }

    private boolean noThing(int thing) {
        return thing < 0 || thing >= world.things.size();
    }

    int heir(int heir, int what) {
        if (noHeir(heir) || what < 0 || what > 5) {
            return -1;
        }
        if (what < 3) {
            return world.heirs.get(heir)[what];
        }
        if (what == 5) {
            return world.held(heir);
        }
        int bits = 0;
        for (int i = 0; i < 7; i++) {
            if (what == 3 ? world.areCousins(heir, i) : world.of(heir, i) != null) {
                bits |= 1 << i;
            }
        }
        return bits;
    }

    int thing(int thing, int what) {
        if (noThing(thing) || what < 0 || what > 6) {
            return -2;
        }
        if (what < 6) {
            return world.things.get(thing)[what];
        }
        int bits = 0;
        for (int heir = 0; heir < world.heirs.size(); heir++) {
            bits |= world.holds(heir, thing) ? 1 << heir : 0;
        }
        return bits;
    }

    int knows(int heir, int thing, int what) {
        if (noHeir(heir) || noThing(thing) || what < 0 || what > 1) {
            return -2;
        }
        Knowledge it = world.of(heir, thing);
        return what == 0 ? it == null ? -1 : it.as : it == null ? 0 : it.strength;
    }

    private int loss(World world, int heir, int thing) {
        if (force >= 0) {
            Where where = new Where(world, heir, thing);
            for (Clause clause : rules.get(force)) {
                if (clause.test().of(where)) {
                    return (int) Math.min(99, Math.max(0, clause.sum().of(where)));
                }
            }
            return 0;
        }
        int[] what = world.things.get(thing);
        int[] who = world.heirs.get(heir);
        int loss = what[1] * (1 + what[4]) / (1 + what[3]) + who[0] / 20;
        return loss / (1 + who[2]);
    }

    private int pass(World world) {
        TreeMap<Integer, Integer> losses = new TreeMap<>();
        for (int key : world.knowledge.keySet()) {
            losses.put(key, loss(world, key / 100, key % 100));
        }
        losses.forEach((key, loss) -> world.knowledge.get(key).strength -= loss);
        world.knowledge.values().removeIf(it -> it.strength <= 0);
        for (int[] heir : world.heirs) {
            heir[0] = heir[0] == 99 ? 99 : heir[0] + 1;
        }
        int struck = 0;
        for (int thing = 0; thing < world.things.size(); thing++) {
            if (world.things.get(thing)[5] < 0 && !world.anyHolds(thing)) {
                world.things.get(thing)[5] = world.year;
                struck++;
            }
        }
        world.year++;
        return struck;
    }

    private void act() {
        acts.push(world.copy());
        if (acts.size() > 20) {
            acts.removeLast();
        }
    }

    int year() {
        if (!world.told || world.year == 999) {
            return -1;
        }
        act();
        return pass(world);
    }

    private boolean take(int from, int to, int thing, boolean whole) {
        Knowledge told = world.of(from, thing);
        Knowledge had = world.of(to, thing);
        if (had != null && had.strength >= told.strength) {
            return false;
        }
        world.learn(to, thing, told.as, whole ? told.strength : Math.max(1, told.strength / 2));
        return true;
    }

    int tell(int one, int other, int thing, boolean love) {
        if (noHeir(one) || noHeir(other) || noThing(thing) || !world.areCousins(one, other)
            || world.of(one, thing) == null) {
            return -1;
        }
        act();
        if (!take(one, other, thing, love)) {
            return 0;
        }
        int took = 1;
        if (love && world.of(other, thing).as != world.things.get(thing)[0]) {
            List<Integer> next = new ArrayList<>();
            for (int i = 0; i < world.heirs.size(); i++) {
                if (i != one && world.areCousins(other, i)) {
                    next.add(i);
                }
            }
            for (int i : next.subList(0, Math.min(3, next.size()))) {
                took += take(other, i, thing, false) ? 1 : 0;
            }
        }
        return took;
    }

    private boolean unknown(int heir, int thing) {
        return noHeir(heir) || noThing(thing) || world.of(heir, thing) == null;
    }

    int prompt(int heir, int thing) {
        if (unknown(heir, thing)) {
            return -1;
        }
        act();
        Knowledge it = world.of(heir, thing);
        it.strength = Math.min(99, it.strength + 10);
        return it.strength;
    }

    private static void ask(World world, int heir, int thing) {
        Knowledge it = world.of(heir, thing);
        if (it != null && it.as != world.things.get(thing)[0]) {
            world.knowledge.remove(heir * 100 + thing);
        }
    }

    int ask(int heir, int thing) {
        if (noHeir(heir) || noThing(thing) || world.asks == 0) {
            return -1;
        }
        act();
        int as = unknown(heir, thing) ? 10 : world.of(heir, thing).as;
        world.asks--;
        ask(world, heir, thing);
        return as;
    }

    boolean burn(int thing) {
        if (noThing(thing) || world.things.get(thing)[4] == 1) {
            return false;
        }
        act();
        world.things.get(thing)[4] = 1;
        return true;
    }

    int undo() {
        if (acts.isEmpty()) {
            return -1;
        }
        world = acts.pop();
        return acts.size();
    }

    private World later(int n) {
        World later = world.copy();
        for (int i = 0; i < n; i++) {
            pass(later);
        }
        return later;
    }

    int ahead(int heir, int n) {
        return noHeir(heir) || n < 0 || n > 200 ? -1 : later(n).held(heir);
    }

    int strike(int thing) {
        if (noThing(thing)) {
            return -1;
        }
        int when = later(200).things.get(thing)[5];
        return when < 0 ? -2 : when;
    }

    int inherits(int what) {
        if (what < 0 || what > 1 || !world.told) {
            return -1;
        }
        if (world.heldTogether() == 0) {
            return -2;
        }
        World later = world.copy();
        for (int i = 0; i < 200; i++) {
            World before = later.copy();
            pass(later);
            if (later.heldTogether() == 0) {
                int most = 0;
                for (int heir = 0; heir < before.heirs.size(); heir++) {
                    if (Integer.bitCount(before.held(heir)) > Integer.bitCount(before.held(most))) {
                        most = heir;
                    }
                }
                return what == 0 ? most : before.year;
            }
        }
        return -3;
    }

    int longest() {
        if (!world.told) {
            return -1;
        }
        World later = later(200);
        int best = -2;
        long most = -1;
        for (int thing = 0; thing < later.things.size(); thing++) {
            int when = later.things.get(thing)[5];
            long lasts = when < 0 ? 1000000 : when;
            if (lasts > most) {
                most = lasts;
                best = thing;
            }
        }
        return best;
    }

    int fields(int n) {
        if (!world.told || n < 0 || n > 200) {
            return -1;
        }
        return later(n).things.stream().mapToInt(thing -> thing[5] < 0 ? thing[2] : 0).sum();
    }

    int falls(int heir) {
        if (noHeir(heir)) {
            return -1;
        }
        World without = world.copy();
        without.knowledge.keySet().removeIf(key -> key / 100 == heir);
        int bits = 0;
        for (int thing = 0; thing < world.things.size(); thing++) {
            bits |= world.anyHolds(thing) && !without.anyHolds(thing) ? 1 << thing : 0;
        }
        return bits;
    }

    int examine(int what) {
        if (!world.told || what < 0 || what > 2) {
            return -1;
        }
        int[] best = {-2, -2, -2};
        for (int heir = 0; heir < world.heirs.size(); heir++) {
            for (int thing = 0; thing < world.things.size(); thing++) {
                World then = world.copy();
                ask(then, heir, thing);
                if (best[2] < 0 || then.heldTogether() < best[2]) {
                    best = new int[] {heir, thing, then.heldTogether()};
                }
            }
        }
        return best[what];
    }

    int likeliest(int thing, int what) {
        if (noThing(thing) || what < 0 || what > 1) {
            return -1;
        }
        int[] together = new int[10];
        world.knowledge.forEach((key, it) -> together[it.as] += key % 100 == thing ? it.strength : 0);
        int best = 0;
        for (int as = 1; as < 10; as++) {
            best = together[as] > together[best] ? as : best;
        }
        return together[best] == 0 ? -2 : what == 0 ? best : together[best];
    }

    private boolean parted(int heirs, int set) {
        for (int one = 0; one < 7; one++) {
            for (int other = 0; other < one; other++) {
                if ((heirs >> one & 1) == 1 && (heirs >> other & 1) == 1) {
                    boolean unlike = false;
                    for (int thing = 0; thing < 7; thing++) {
                        Knowledge a = world.of(one, thing);
                        Knowledge b = world.of(other, thing);
                        int asA = a == null ? -1 : a.as;
                        int asB = b == null ? -1 : b.as;
                        unlike |= (set >> thing & 1) == 1 && asA != asB;
                    }
                    if (!unlike) {
                        return false;
                    }
                }
            }
        }
        return true;
    }

    int parts(int heirs, int what) {
        if (heirs < 0 || heirs >> world.heirs.size() != 0 || what < 0 || what > 1) {
            return -1;
        }
        for (int many = 0; many <= world.things.size(); many++) {
            for (int set = 0; set < 1 << world.things.size(); set++) {
                if (Integer.bitCount(set) == many && parted(heirs, set)) {
                    return what == 0 ? many : set;
                }
            }
        }
        return -2;
    }

    /** All ways, each a row of whom each HEIR had it from (-1: made it up; -5: they do not err). */
    private List<int[]> allWays(int thing) {
        List<int[]> ways = new ArrayList<>();
        choose(thing, 0, new int[world.heirs.size()], ways);
        return ways;
    }

    private boolean errs(int heir, int thing) {
        return world.of(heir, thing) != null && world.of(heir, thing).as != world.things.get(thing)[0];
    }

    private void choose(int thing, int heir, int[] from, List<int[]> ways) {
        if (heir == from.length) {
            for (int i = 0; i < from.length; i++) {
                int j = i;
                for (int steps = 0; j >= 0 && steps <= from.length; steps++) {
                    j = from[j];
                }
                if (j >= 0) {
                    return;
                }
            }
            ways.add(from.clone());
            return;
        }
        if (!errs(heir, thing)) {
            from[heir] = -5;
            choose(thing, heir + 1, from, ways);
            return;
        }
        for (int other = -1; other < from.length; other++) {
            if (other == -1 || world.areCousins(heir, other) && errs(other, thing)
                && world.of(other, thing).as == world.of(heir, thing).as) {
                from[heir] = other;
                choose(thing, heir + 1, from, ways);
            }
        }
    }

    int ways(int thing) {
        return noThing(thing) ? -1 : allWays(thing).size();
    }

    int taught(int heir, int thing) {
        if (noHeir(heir) || noThing(thing)) {
            return -4;
        }
        if (!errs(heir, thing)) {
            return -3;
        }
        List<int[]> ways = allWays(thing);
        int from = ways.get(0)[heir];
        for (int[] way : ways) {
            if (way[heir] != from) {
                return -2;
            }
        }
        return from;
    }

    int prompts(int heir, int thing, int n) {
        if (unknown(heir, thing) || n < 1 || n > 40) {
            return -1;
        }
        if (force >= 0) {
            return -3;
        }
        // The fewest prompts for each strength, year by year.
        int[] fewest = new int[100];
        java.util.Arrays.fill(fewest, 1000000);
        World later = world.copy();
        fewest[later.of(heir, thing).strength] = 0;
        for (int i = 0; i < n; i++) {
            for (int s = 1; s < 99; s++) {
                int more = Math.min(99, s + 10);
                fewest[more] = Math.min(fewest[more], fewest[s] + 1);
            }
            int loss = loss(later, heir, thing);
            int[] next = new int[100];
            java.util.Arrays.fill(next, 1000000);
            for (int s = 1; s < 100; s++) {
                if (s > loss) {
                    next[s - loss] = Math.min(next[s - loss], fewest[s]);
                }
            }
            fewest = next;
            later.heirs.get(heir)[0] = Math.min(99, later.heirs.get(heir)[0] + 1);
        }
        int best = java.util.Arrays.stream(fewest).min().getAsInt();
        return best >= 1000000 ? -2 : best;
    }

    int cost(int thing) {
        if (noThing(thing)) {
            return -2000;
        }
        if (world.things.get(thing)[4] == 1 || world.things.get(thing)[5] >= 0) {
            return 0;
        }
        int whole = strike(thing);
        world.things.get(thing)[4] = 1;
        int burnt = strike(thing);
        world.things.get(thing)[4] = 0;
        return whole < 0 || burnt < 0 ? -1000 : whole - burnt;
    }

    int seed(int x) {
        if (x < 0) {
            return -1;
        }
        int was = this.x;
        this.x = x;
        return was;
    }

    int drawn(int m, int n, int what) {
        if (m < 1 || m > 10 || n < 1 || n > 60 || what < 0 || what > 1 || !world.told) {
            return -1;
        }
        long[] seed = {x};
        java.util.function.IntSupplier draw = () -> {
            seed[0] = (seed[0] * 1103515245L + 12345L) % 2147483648L;
            return (int) (seed[0] / 65536);
        };
        int things = 0;
        int held = 0;
        for (int i = 0; i < m; i++) {
            World later = world.copy();
            for (int j = 0; j < n; j++) {
                for (int heir = 0; heir < later.heirs.size(); heir++) {
                    if (draw.getAsInt() % 100 < later.heirs.get(heir)[1] && !later.things.isEmpty()) {
                        later.knowledge.remove(heir * 100 + draw.getAsInt() % later.things.size());
                    }
                }
                pass(later);
            }
            things += Integer.bitCount(later.standing());
            held += later.heldTogether();
        }
        return what == 0 ? things : held;
    }

    int count(int what) {
        return switch (what) {
            case 0 -> world.things.size();
            case 1 -> world.heirs.size();
            case 2 -> world.cousins.size();
            case 3 -> rules.size();
            case 4 -> force;
            case 5 -> world.year;
            case 6 -> world.asks;
            case 7 -> world.standing();
            case 8 -> world.heldTogether();
            case 9 -> acts.size();
            case 10 -> x;
            case 11 -> tape.size();
            default -> -1;
        };
    }

    int image(int k) {
        if (k < 0 || k > 3) {
            return -1;
        }
        images[k] = new Image(world.copy(), force, x);
        return world.year;
    }

    int back(int k) {
        if (k < 0 || k > 3 || images[k] == null) {
            return -1;
        }
        world = images[k].world().copy();
        force = images[k].force();
        x = images[k].x();
        acts.clear();
        return world.year;
    }
}
