import java.util.Random;

/** Makes texts of HOUSES and RULES: most can be read, some have a sign changed, left out or put in. */
final class Texts {
    private final Random random;

    Texts(Random random) {
        this.random = random;
    }

    private int upTo(int most) {
        return random.nextInt(most + 1);
    }

    private String blank() {
        return random.nextInt(12) == 0 ? " ".repeat(upTo(2)) : "";
    }

    String house() {
        StringBuilder text = new StringBuilder(blank() + "house " + (1 + upTo(19)));
        int things = random.nextInt(12) == 0 ? 0 : 1 + upTo(random.nextInt(8) == 0 ? 7 : 4);
        int heirs = random.nextInt(12) == 0 ? 0 : 1 + upTo(random.nextInt(8) == 0 ? 7 : 5);
        int slow = upTo(2);
        for (int i = 0; i < things; i++) {
            String field = upTo(3) == 0 ? "" + upTo(99) : "" + upTo(9);
            int fade = slow == 0 ? upTo(1) : slow == 1 ? upTo(6) : upTo(20);
            text.append(";thing ").append(upTo(3)).append(' ').append(fade).append(' ').append(field);
            if (upTo(4) == 0) {
                text.append(";song ").append(upTo(i));
            }
        }
        for (int i = 0; i < heirs; i++) {
            int age = upTo(2) == 0 ? upTo(99) : upTo(30);
            text.append(";heir ").append(age).append(' ').append(upTo(2) == 0 ? upTo(100) : upTo(9));
            if (upTo(5) == 0) {
                text.append(";hates ").append(upTo(i));
            }
        }
        if (heirs > 1) {
            boolean[] are = new boolean[100];
            for (int i = upTo(11); i > 0; i--) {
                int one = upTo(heirs - 1);
                int other = upTo(heirs - 1);
                if (one != other && !are[Math.min(one, other) * 10 + Math.max(one, other)] || upTo(60) == 0) {
                    text.append(";cousins ").append(one).append(' ').append(other);
                    are[Math.min(one, other) * 10 + Math.max(one, other)] = true;
                }
            }
        }
        if (heirs > 0 && things > 0) {
            for (int i = upTo(20); i > 0 && text.length() < 380; i--) {
                text.append(blank()).append(";knows ").append(upTo(heirs - 1)).append(' ').append(upTo(things - 1));
                text.append(' ').append(upTo(3)).append(' ').append(blank()).append(1 + upTo(98));
            }
        }
        return cut(spoilt(text.toString(), 5));
    }

    String rule() {
        StringBuilder text = new StringBuilder();
        for (int i = upTo(upTo(9) == 0 ? 12 : 3); i >= 0; i--) {
            text.append(blank()).append("fade ").append(sum());
            if (i > 0 || upTo(1) == 0) {
                text.append(" if ").append(test(upTo(9) == 0 ? 12 : upTo(4)));
            }
            text.append(i > 0 ? ";" : "");
        }
        return cut(spoilt(text.toString(), 6));
    }

    private String value() {
        if (upTo(2) == 0) {
            return "" + upTo(upTo(3) == 0 ? 99999 : 12);
        }
        return HouseModel.VALUES.get(random.nextInt(HouseModel.VALUES.size()));
    }

    private String sum() {
        StringBuilder sum = new StringBuilder(value());
        for (int i = upTo(upTo(6) == 0 ? 5 : 2); i > 0; i--) {
            sum.append(blank()).append("+-*/%".charAt(upTo(4))).append(blank()).append(value());
        }
        return sum.toString();
    }

    private String test(int deep) {
        StringBuilder test = new StringBuilder(fact(deep));
        for (int i = upTo(1); i > 0; i--) {
            test.append(upTo(1) == 0 ? " and " : " or ").append(fact(deep / 2));
        }
        return test.toString();
    }

    private String fact(int deep) {
        if (deep > 0 && upTo(3) != 0) {
            return upTo(1) == 0 ? "not " + fact(deep - 1) : "[" + test(deep - 1) + blank() + "]";
        }
        String[] signs = {"<", "<=", "=", ">=", ">"};
        return sum() + blank() + signs[upTo(4)] + blank() + sum();
    }

    private String spoilt(String text, int seldom) {
        if (upTo(seldom) != 0 || text.isEmpty()) {
            return text;
        }
        StringBuilder other = new StringBuilder(text);
        int place = upTo(text.length() - 1);
        switch (upTo(4)) {
            case 0 -> other.deleteCharAt(place);
            case 1 -> other.insert(place, "0; [x=<f".charAt(upTo(7)));
            case 2 -> other.setCharAt(place, (char) upTo(255));
            case 3 -> other.setLength(place);
            default -> other.insert(place, text, place, Math.min(text.length(), place + upTo(9)));
        }
        return other.toString();
    }

    private static String cut(String text) {
        return text.length() > 400 ? text.substring(0, 400) : text;
    }
}
