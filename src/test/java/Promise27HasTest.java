/** Promise 27, has: which GROTTO a GUILD has, if they are SHARED; of like ones the first row. */
public final class Promise27HasTest {
    public static void main(String[] args) {
        Check.runAll(Promise27HasTest.class);
    }

    private static void row(String text, int... want) {
        GrottoHours x = Texts.town(text);
        for (int i = 0; i < want.length; i++) {
            int guild = i;
            Check.same("has(" + i + ") of " + text, want[i], () -> x.has(guild));
        }
        Check.noSuchElement("one guild more", () -> x.has(want.length));
    }

    static void promise27NoSuchGuild() {
        GrottoHours x = Texts.town("grotto 1 0 0;guild 1 1 1;guild 1 1 1;");
        for (int wrong : Edges.outside(0, 1)) {
            Facts.noSuchElement(x, "has(" + wrong + ")", () -> x.has(wrong));
        }
    }

    static void promise27None() {
        row("guild 1 1 999;", -1);
        row("grotto 1 0 20;guild 1 1 199;", -1);
        row("grotto 1 0 20;guild 1 1 200;", 0);
        row("grotto 1 0 0;guild 1 1 0;", 0);
    }

    static void promise27NoneIsBehindAll() {
        // Like ones: the first guild has the one grotto, not the second.
        row("grotto 1 0 3;guild 0 0 30;guild 0 0 30;", 0, -1);
        row("grotto 1 0 3;grotto 1 0 3;guild 0 0 30;guild 0 0 30;guild 0 0 30;", 0, 1, -1);
        row("grotto 1 0 3;guild 0 0 29;guild 0 0 30;guild 0 0 30;", -1, 0, -1);
    }

    static void promise27OfLikeOnesTheFirstRow() {
        row("grotto 1 0 3;".repeat(8) + "guild 0 0 999;".repeat(6), 0, 1, 2, 3, 4, 5);
        row("grotto 1 0 4;grotto 1 0 3;grotto 1 0 3;grotto 1 0 3;guild 0 0 999;guild 0 0 999;", 1, 2);
        // 7 in all either way: guild 0 takes the first that leaves it so.
        row("grotto 1 0 4;grotto 1 0 3;guild 0 0 999;guild 0 0 999;", 0, 1);
    }

    static void promise27AsManyAsCan() {
        row("grotto 1 0 5;grotto 1 0 3;grotto 1 0 3;guild 0 0 50;guild 0 0 30;guild 0 0 30;", 0, 1, 2);
        row("grotto 1 0 3;grotto 1 0 5;guild 0 0 50;guild 0 0 30;", 1, 0);
        row("grotto 1 0 10;grotto 1 0 5;grotto 1 0 7;guild 0 0 100;guild 0 0 69;guild 0 0 50;", 2, 1, -1);
    }

    static void promise27ByTheLeastPrices() {
        row("grotto 1 0 20;grotto 1 0 19;grotto 1 0 18;grotto 1 0 17;grotto 1 0 16;grotto 1 0 15;grotto 1 0 14;"
            + "grotto 1 0 13;" + "guild 0 0 999;".repeat(6), 2, 3, 4, 5, 6, 7);
        row("grotto 1 0 9;grotto 1 0 3;grotto 1 0 7;grotto 1 0 5;guild 0 0 999;guild 0 0 30;", 3, 1);
    }

    static void promise27AllAreFree() {
        GrottoHours x = Texts.town("grotto 1 0 5;grotto 1 0 3;guild 0 0 50;guild 0 0 50 hires 0;");
        Check.same("has(0)", 0, x.has(0));
        Check.same("has(1)", 1, x.has(1));
        x.drain(0, true);
        Check.same("has(0), drained", 0, x.has(0));
        Check.same("it hasn't hired it", -1, x.guild(0, 4));
        Check.same("no act", 1, x.count(9));
    }

    static void promise27ByThePurseOfNow() {
        GrottoHours x = Texts.town("grotto 1 0 5;guild 0 0 49;guild 0 0 50;");
        Check.same("has(0)", -1, x.has(0));
        Check.same("has(1)", 0, x.has(1));
        x.give(0, 1);
        Check.same("has(0) with 50", 0, x.has(0));
        Check.same("has(1)", -1, x.has(1));
    }

    static void promise27NothingOfAnEarlierTown() {
        // There guild 1 could have grotto 0 alone, so that guild 0 had 1.
        GrottoHours x = Texts.town("grotto 1 0 0;grotto 1 0 20;guild 0 0 200;guild 0 0 0;");
        Check.same("has(0) ahead", 1, x.has(0));
        Check.same("has(1) ahead", 0, x.has(1));
        Check.same("port", 0, Texts.port(x, "grotto 1 0 3;grotto 1 0 3;guild 0 0 200;"));
        Check.same("has(0)", 0, x.has(0));
        Check.same("shared(0)", 1, x.shared(0));
        Check.same("shared(1)", 3, x.shared(1));
    }

    /** Every way to share, tried one by one: the first of the best. */
    static void promise27AgainstAllWays() {
        java.util.Random random = new java.util.Random(27);
        for (int run = 0; run < 60; run++) {
            int[] prices = new int[random.nextInt(6)];
            int[] purses = new int[1 + random.nextInt(4)];
            StringBuilder text = new StringBuilder();
            for (int i = 0; i < prices.length; i++) {
                prices[i] = random.nextInt(6);
                text.append("grotto 1 0 ").append(prices[i]).append(";");
            }
            for (int i = 0; i < purses.length; i++) {
                purses[i] = random.nextInt(60);
                text.append("guild 0 0 ").append(purses[i]).append(";");
            }
            row(text.toString(), best(prices, purses));
        }
    }

    private static int[] best(int[] prices, int[] purses) {
        int[] row = new int[purses.length];
        int[] best = null;
        int bestWorth = -1;
        int choices = prices.length + 1;
        for (int way = 0; way < Math.pow(choices, purses.length); way++) {
            int rest = way;
            for (int guild = purses.length - 1; guild >= 0; guild--) {
                row[guild] = rest % choices;
                rest /= choices;
            }
            int worth = worth(row, prices, purses);
            if (worth > bestWorth) {
                bestWorth = worth;
                best = row.clone();
            }
        }
        for (int guild = 0; guild < best.length; guild++) {
            best[guild] = best[guild] == prices.length ? -1 : best[guild];
        }
        return best;
    }

    private static int worth(int[] row, int[] prices, int[] purses) {
        int worth = 0;
        for (int guild = 0; guild < row.length; guild++) {
            if (row[guild] < prices.length) {
                worth += 1000 - prices[row[guild]];
                if (purses[guild] < 10 * prices[row[guild]]) {
                    return -1;
                }
                for (int other = 0; other < guild; other++) {
                    if (row[other] == row[guild]) {
                        return -1;
                    }
                }
            }
        }
        return worth;
    }
}
