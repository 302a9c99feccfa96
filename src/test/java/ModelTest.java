import java.util.Random;

/** Runs of calls by chance (always the same ones), each answered by the program and by the model. */
final class ModelTest {
    private static Random random;
    private static Texts texts;
    private static ForgetHeirs x;
    private static HouseModel model;
    private static int run;
    private static final java.util.TreeMap<String, Integer> seen = new java.util.TreeMap<>();

    private ModelTest() {
    }

    public static void main(String[] args) {
        int runs = args.length > 0 ? Integer.parseInt(args[0]) : 400;
        long first = args.length > 1 ? Long.parseLong(args[1]) : 1;
        for (run = 0; run < runs && Due.wrongs() == 0; run++) {
            random = new Random(first * 1000003 + run);
            texts = new Texts(random);
            x = new ForgetHeirs();
            model = new HouseModel();
            int calls = 0;
            while (calls < 440) {
                calls += step(calls);
            }
        }
        if (args.length > 2) {
            System.out.println(seen);
        }
        Due.end("ModelTest");
    }

    private static int upTo(int most) {
        return random.nextInt(most + 1);
    }

    private static void same(String call, int got, int want) {
        Due.due("run " + run + ": " + call, got, want);
        String name = call.substring(0, call.indexOf('('));
        seen.merge(name + (want < 0 ? want < -4 ? " fault" : " " + want : " fine"), 1, Integer::sum);
    }

    /** One number, now and then outside of what may be. */
    private static int near(int most) {
        int seldom = upTo(40);
        if (seldom == 0) {
            return random.nextInt();
        }
        return seldom == 1 ? -1 : seldom == 2 ? most + 1 : seldom == 3 ? -2 : upTo(most);
    }

    private static int aThing() {
        return near(Math.max(0, model.count(0) - 1));
    }

    private static int anHeir() {
        return near(Math.max(0, model.count(1) - 1));
    }

    private static int type(String text) {
        int calls = 1;
        for (int i = 0; i < text.length(); i += 20) {
            int[] five = new int[5];
            for (int j = 0; j < 20; j++) {
                five[j / 4] = five[j / 4] << 8 | (i + j < text.length() ? text.charAt(i + j) & 255 : 0);
            }
            same("feed()", x.feed(five[0], five[1], five[2], five[3], five[4]), model.feed(five));
            calls++;
        }
        int n = upTo(50) == 0 ? text.length() + 25 : text.length();
        same("end(" + n + ")", x.end(n), model.end(n));
        return calls;
    }

    private static int step(int calls) {
        if (calls == 0 || upTo(90) == 0) {
            String text = texts.house();
            int made = type(text);
            same("house() of " + text, x.house(), model.house());
            return made + 1;
        }
        if (upTo(70) == 0) {
            String text = texts.rule();
            int made = type(text);
            same("rule() of " + text, x.rule(), model.rule());
            return made + 1;
        }
        if (upTo(1) == 0) {
            act();
        } else {
            question();
        }
        return 1;
    }

    private static void act() {
        int a = anHeir();
        int b = anHeir();
        int t = aThing();
        switch (upTo(13)) {
            case 0, 1 -> same("year()", x.year(), model.year());
            case 2, 3, 4 -> {
                boolean love = upTo(1) == 0;
                same("tell(" + a + "," + b + "," + t + "," + love + ")", x.tell(a, b, t, love),
                    model.tell(a, b, t, love));
            }
            case 5, 6 -> same("prompt(" + a + "," + t + ")", x.prompt(a, t), model.prompt(a, t));
            case 7 -> same("ask(" + a + "," + t + ")", x.ask(a, t), model.ask(a, t));
            case 8 -> same("burn(" + t + ")", x.burn(t) ? 1 : 0, model.burn(t) ? 1 : 0);
            case 9 -> same("undo()", x.undo(), model.undo());
            case 10 -> {
                int k = near(3);
                same("image(" + k + ")", x.image(k), model.image(k));
            }
            case 11 -> {
                int k = near(3);
                same("back(" + k + ")", x.back(k), model.back(k));
            }
            case 12 -> {
                int k = upTo(3) == 0 ? -1 : near(Math.max(0, model.count(3) - 1));
                same("force(" + k + ")", x.force(k), model.force(k));
            }
            default -> {
                int k = upTo(5) == 0 ? random.nextInt() : random.nextInt() & Integer.MAX_VALUE;
                same("seed(" + k + ")", x.seed(k), model.seed(k));
            }
        }
    }

    private static void question() {
        int a = anHeir();
        int t = aThing();
        int far = upTo(5) == 0 ? near(200) : near(12);
        int w = near(1);
        switch (upTo(18)) {
            case 0 -> same("ahead(" + a + "," + far + ")", x.ahead(a, far), model.ahead(a, far));
            case 1 -> same("strike(" + t + ")", x.strike(t), model.strike(t));
            case 2 -> same("inherits(" + w + ")", x.inherits(w), model.inherits(w));
            case 3 -> same("longest()", x.longest(), model.longest());
            case 4 -> same("fields(" + far + ")", x.fields(far), model.fields(far));
            case 5 -> same("falls(" + a + ")", x.falls(a), model.falls(a));
            case 6 -> {
                int what = near(2);
                same("examine(" + what + ")", x.examine(what), model.examine(what));
            }
            case 7 -> same("likeliest(" + t + "," + w + ")", x.likeliest(t, w), model.likeliest(t, w));
            case 8 -> {
                int heirs = near((1 << model.count(1)) - 1);
                same("parts(" + heirs + "," + w + ")", x.parts(heirs, w), model.parts(heirs, w));
            }
            case 9 -> same("ways(" + t + ")", x.ways(t), model.ways(t));
            case 10 -> same("taught(" + a + "," + t + ")", x.taught(a, t), model.taught(a, t));
            case 11 -> {
                int n = near(40);
                same("prompts(" + a + "," + t + "," + n + ")", x.prompts(a, t, n), model.prompts(a, t, n));
            }
            case 12 -> same("cost(" + t + ")", x.cost(t), model.cost(t));
            case 13 -> {
                int m = near(10);
                int n = near(upTo(3) == 0 ? 60 : 8);
                same("drawn(" + m + "," + n + "," + w + ")", x.drawn(m, n, w), model.drawn(m, n, w));
            }
            case 14, 15 -> {
                int what = near(11);
                same("count(" + what + ")", x.count(what), model.count(what));
            }
            case 16 -> {
                int what = near(5);
                same("heir(" + a + "," + what + ")", x.heir(a, what), model.heir(a, what));
            }
            case 17 -> {
                int what = near(6);
                same("thing(" + t + "," + what + ")", x.thing(t, what), model.thing(t, what));
            }
            default -> same("knows(" + a + "," + t + "," + w + ")", x.knows(a, t, w), model.knows(a, t, w));
        }
    }
}
