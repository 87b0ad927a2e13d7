import java.util.Random;

/** Texts of towns by chance: most of them right, some with a sign or a token changed. */
final class RandomTexts {
    private static final String[] VALUES = {"sin", "purse", "drip", "price", "wet", "hour", "greed"};
    private static final String[] TOKENS = {"grotto", "hollow", "guild", "hires", "wet", "bound", "prays", "costs",
        "or", "and", "not", "sin", "greed", "word", "0", "7", "12", "13", "99", "100", "9999", "00012", "12345",
        ";", "(", ")", "+", "-", "*", "/", "<", "=", "#", "A", "\t", "not not not not", "((((", "))))"};
    private final Random random;

    RandomTexts(Random random) {
        this.random = random;
    }

    private int upTo(int most) {
        return random.nextInt(most + 1);
    }

    private String blank() {
        return random.nextInt(12) == 0 ? "\n " : " ";
    }

    String part(boolean withGreed, int depth) {
        int kind = random.nextInt(depth >= 5 ? 7 : 9);
        if (kind < 3) {
            return String.valueOf(random.nextInt(3) == 0 ? upTo(9999) : upTo(12));
        }
        if (kind < 7) {
            return VALUES[random.nextInt(withGreed ? 7 : 6)];
        }
        return "(" + expr(withGreed, depth + 1) + ")";
    }

    private String joined(String[] operators, int oneIn, boolean withGreed, int depth, int level) {
        StringBuilder text = new StringBuilder(level == 0 ? part(withGreed, depth) : sum(withGreed, depth));
        for (int i = 0; i < 3 && random.nextInt(oneIn) == 0; i++) {
            text.append(operators[random.nextInt(operators.length)]);
            text.append(level == 0 ? part(withGreed, depth) : sum(withGreed, depth));
        }
        return text.toString();
    }

    private String sum(boolean withGreed, int depth) {
        StringBuilder text = new StringBuilder(product(withGreed, depth));
        for (int i = 0; i < 3 && random.nextInt(4) == 0; i++) {
            text.append(random.nextBoolean() ? "+" : "-").append(product(withGreed, depth));
        }
        return text.toString();
    }

    private String product(boolean withGreed, int depth) {
        return joined(new String[] {"*", "/"}, 4, withGreed, depth, 0);
    }

    private String test(boolean withGreed, int depth) {
        StringBuilder text = new StringBuilder();
        for (int i = 0; i < 6 && random.nextInt(8) == 0; i++) {
            text.append("not ");
        }
        text.append(sum(withGreed, depth));
        if (random.nextInt(4) == 0) {
            text.append(random.nextBoolean() ? "<" : "=").append(sum(withGreed, depth));
        }
        return text.toString();
    }

    String expr(boolean withGreed, int depth) {
        StringBuilder text = new StringBuilder(test(withGreed, depth));
        for (int i = 0; i < 2 && random.nextInt(6) == 0; i++) {
            text.append(random.nextBoolean() ? " and " : " or ").append(test(withGreed, depth));
        }
        return text.toString();
    }

    private void grottoes(StringBuilder text, int many) {
        for (int i = 0; i < many; i++) {
            text.append(random.nextInt(3) == 0 ? "hollow " : "grotto ").append(1 + upTo(11)).append(blank())
                .append(upTo(11)).append(blank()).append(upTo(20)).append(";");
        }
    }

    private void guilds(StringBuilder text, int many, int grottoes) {
        int free = 0;
        for (int i = 0; i < many; i++) {
            text.append("guild ").append(upTo(9)).append(blank()).append(upTo(99)).append(blank())
                .append(random.nextBoolean() ? upTo(999) : upTo(100));
            if (free < grottoes && random.nextInt(3) != 0) {
                text.append(" hires ").append(free);
                free += 1 + upTo(1);
            }
            text.append(";");
        }
    }

    private void wet(StringBuilder text) {
        text.append("wet");
        int many = 1 + upTo(7);
        for (int i = 0; i < many; i++) {
            text.append(blank()).append(random.nextInt(3) == 0 ? 0 : upTo(9));
        }
        text.append(";");
    }

    String right() {
        StringBuilder text = new StringBuilder();
        int grottoes = random.nextInt(10) == 0 ? 0 : 1 + upTo(7);
        int guilds = random.nextInt(10) == 0 ? 0 : 1 + upTo(5);
        if (random.nextInt(3) != 0) {
            wet(text);
        }
        grottoes(text, grottoes);
        if (random.nextBoolean()) {
            text.append("prays ").append(expr(false, 0)).append(";");
        }
        guilds(text, guilds, grottoes);
        if (random.nextBoolean()) {
            text.append("costs ").append(expr(true, 0)).append(";");
        }
        if (random.nextBoolean()) {
            text.append("bound ").append(1 + upTo(98)).append(";");
        }
        return text.toString();
    }

    String any() {
        StringBuilder text = new StringBuilder(right());
        for (int i = 0; i < 3 && random.nextInt(3) != 0; i++) {
            int at = random.nextInt(text.length() + 1);
            if (random.nextInt(3) == 0 && at < text.length()) {
                text.deleteCharAt(at);
            } else {
                boolean isApart = random.nextBoolean();
                String token = TOKENS[random.nextInt(TOKENS.length)];
                text.insert(at, isApart ? " " + token + " " : token);
            }
        }
        return text.toString();
    }
}
