/** Promises 34 to 36: drought, game, years. */
public final class ChanceTest {
    public static void main(String[] args) {
        drought();
        droughtByRules();
        game();
        gameOfThePoor();
        years();
        yearsOfNone();
        Check.end();
    }

    private static void drought() {
        // Where an hour is dry, sin grows by 5 and stays so; where it's wet, the prayer keeps it.
        GrottoHours x = Texts.town("wet 5;grotto 1 0 0;guild 5 64 0 hires 0;guild 0 71 0;guild 0 70 0;");
        // A silence needs two dry hours of those that go by: 74 is more than 70.
        Check.same("drought(0, 1, 5)", 0, x.drought(0, 1, 5));
        Check.same("drought(0, 2, 3)", 9, x.drought(0, 2, 3));
        // Two or three dry ones of three: 3 * 9 * 7 + 27.
        Check.same("drought(0, 3, 3)", 216, x.drought(0, 3, 3));
        Check.same("drought(0, 5, 10)", 100000, x.drought(0, 5, 10));
        Check.same("drought(0, 5, 0)", 0, x.drought(0, 5, 0));
        Check.same("drought(1, 5, 4)", 100000, x.drought(1, 5, 4));
        Check.same("drought(1, 1, 0)", 10, x.drought(1, 1, 0));
        Check.same("drought(2, 5, 10)", 0, x.drought(2, 5, 10));
        x.hours(3);
        Check.same("silences that were count not", 0, x.drought(2, 5, 10));
        Check.same("drought(1, 4, 7) later", 10000, x.drought(1, 4, 7));
        for (int wrong : new int[] {-1, 0, 6, Integer.MAX_VALUE, Integer.MIN_VALUE}) {
            Check.illegalArgument("drought(0, " + wrong + ", 5)", () -> x.drought(0, wrong, 5));
            Check.noSuchElement("drought(3, " + wrong + ", 5)", () -> x.drought(3, wrong, 5));
        }
        for (int wrong : new int[] {-1, 11, Integer.MAX_VALUE, Integer.MIN_VALUE}) {
            Check.illegalArgument("drought(0, 1, " + wrong + ")", () -> x.drought(0, 1, wrong));
            Check.noSuchElement("drought(-1, 1, " + wrong + ")", () -> x.drought(-1, 1, wrong));
        }
    }

    private static void droughtByRules() {
        // A wet hour is 9 for the rule, whatever was told: 60 + 5 + 5 - 9 + 5.
        GrottoHours x = Texts.town("wet 0 1;grotto 1 0 0;guild 5 60 0 hires 0;prays wet-8;bound 69;");
        Check.same("drought(0, 2, 5): wet prays 1 away", 25, x.drought(0, 2, 5));
        Check.same("drought(0, 2, 1)", 1, x.drought(0, 2, 1));
        x.drain(0, true);
        Check.same("a drained one prays not", 100, x.drought(0, 2, 1));
    }

    private static void game(GrottoHours x, int guild, int other, int many, int first) {
        Check.same("game(" + guild + ", " + other + ", 0)", many, () -> x.game(guild, other, 0));
        Check.same("game(" + guild + ", " + other + ", 1)", first, () -> x.game(guild, other, 1));
    }

    private static void game() {
        // 0 is quiet in all hours, if it confesses, else in none; 1 is quiet but in the last one either way;
        // 2 can't confess and is always quiet; 3 is as 0; 4 is quiet in four hours, if it confesses, else in none.
        GrottoHours x = Texts.town("guild 1 86 50;guild 9 0 999;guild 0 0 0;guild 0 71 50;guild 9 62 50;");
        // 0 gains 40 - 6 - 21 by it, else 0 - 21.
        game(x, 0, 1, 1, 10);
        game(x, 1, 0, 1, 1);
        game(x, 2, 0, 1, 1);
        game(x, 1, 2, 1, 0);
        // Each gains 40 - 6 by it, else 0, less 24 or nothing by the other one's choice.
        game(x, 0, 3, 1, 11);
        // 4 gains 20 - 6 - 24 by it, else 0 - 24.
        game(x, 4, 2, 1, 10);
        for (int wrong : new int[] {-1, 5, Integer.MAX_VALUE, Integer.MIN_VALUE}) {
            Check.noSuchElement("game(" + wrong + ", 0, 0)", () -> x.game(wrong, 0, 0));
            Check.noSuchElement("game(0, " + wrong + ", 0)", () -> x.game(0, wrong, 0));
        }
        Check.noSuchElement("game(5, 5, 0)", () -> x.game(5, 5, 0));
        for (int wrong : new int[] {-1, 2, Integer.MAX_VALUE}) {
            Check.noSuchElement("game(0, 1, " + wrong + ")", () -> x.game(0, 1, wrong));
            Check.noSuchElement("game(0, 0, " + wrong + ")", () -> x.game(0, 0, wrong));
        }
        Check.illegalArgument("game(0, 0, 0)", () -> x.game(0, 0, 0));
        Check.illegalArgument("game(3, 3, 1)", () -> x.game(3, 3, 1));
        Check.same("nobody has confessed", 50, x.guild(0, 2));
    }

    private static void gameOfThePoor() {
        GrottoHours x = Texts.town("guild 0 99 49;guild 0 99 49;guild 9 99 100;");
        game(x, 0, 1, 1, 0);
        // 2 has 58 and 67 in two quiet hours, and the other one is never quiet: 10 - 6.
        game(x, 0, 2, 1, 1);
        game(x, 2, 0, 1, 10);
        // One quiet hour is worth 5, less than the 6 of a confession; two are worth 10.
        game(Texts.town("guild 9 99 99;guild 0 99 0;bound 58;"), 0, 1, 1, 0);
        game(Texts.town("guild 9 99 99;guild 0 99 0;bound 67;"), 0, 1, 1, 10);
        // So it is beside one that is always quiet: 24 are lost then either way, not 3 for each quiet hour of its own.
        game(Texts.town("guild 9 99 99;guild 0 0 0;bound 58;"), 0, 1, 1, 0);
        game(Texts.town("guild 9 99 99;guild 0 0 0;bound 67;"), 0, 1, 1, 10);
        game(Texts.town("guild 9 99 99;guild 0 0 0;bound 76;"), 0, 1, 1, 10);
        // Two like ones with two quiet hours each: each gains 4 more by it, whatever the other one does.
        game(Texts.town("guild 9 99 99;guild 9 99 99;bound 67;"), 0, 1, 1, 11);
        game(Texts.town("guild 9 99 99;guild 9 99 99;bound 58;"), 0, 1, 1, 0);
    }

    private static void years() {
        GrottoHours x = Texts.town("grotto 1 0 2;hollow 2 0 3;guild 4 60 20 hires 0;guild 9 69 500;prays 0;");
        Check.same("years(5, 0, 0)", 0, x.years(5, 0, 0));
        Check.same("years(5, 0, 1)", 520, x.years(5, 0, 1));
        Check.same("years(5, 0, 2)", 1, x.years(5, 0, 2));
        // The draws of seed 1 by hand: 1103527590 >>> 16 & 32767 is 16838, MOD 7 is 3: nothing ahead; then
        // 2524885223 (as an int that wraps) gives 5758, MOD 4 is 2: wet. Guild 0 has 20+12-2 then, guild 1 half of 527.
        Check.same("years(1, 1, 0)", 1, x.years(1, 1, 0));
        Check.same("years(1, 1, 1)", 30 + 263, x.years(1, 1, 1));
        Check.same("years(1, 1, 2)", 1, x.years(1, 1, 2));
        for (int seed = -150; seed < 150; seed++) {
            oneYear(x, seed);
        }
        for (int wrong : new int[] {-1, 61, Integer.MAX_VALUE, Integer.MIN_VALUE}) {
            Check.illegalArgument("years(1, " + wrong + ", 0)", () -> x.years(1, wrong, 0));
            Check.noSuchElement("years(1, " + wrong + ", 3)", () -> x.years(1, wrong, 3));
        }
        Check.noSuchElement("years(1, 1, -1)", () -> x.years(1, 1, -1));
        Check.same("nothing has changed", 0, x.count(2));
    }

    private static int next(int seed) {
        return seed * 1103515245 + 12345;
    }

    private static int draw(int seed, int n) {
        return (seed >>> 16) % 32768 % n;
    }

    /** An hour by a seed: purses tell a gift, and who has hired what. */
    private static void oneYear(GrottoHours x, int seed) {
        int event = draw(next(seed), 7);
        int second = next(next(seed));
        int third = next(second);
        int purse = 20 + 12;
        int hired = 1;
        int other = 500 + 27;
        int cost = 2;
        if (event == 0 && draw(third, 2) == 1) {
            hired = draw(second, 2) == 0 ? 1 : 2;
            cost = draw(second, 2) == 0 ? 3 : 2;
            other -= draw(second, 2) == 0 ? 0 : 3;
        }
        if (event == 2) {
            purse += draw(second, 2) == 0 ? 20 : 0;
            other += draw(second, 2) == 0 ? 0 : 20;
        }
        Check.same("event " + event + ": purses", purse - cost + other / 2, x.years(seed, 1, 1));
        Check.same("event " + event + ": hired", hired, x.years(seed, 1, 2));
    }

    private static void yearsOfNone() {
        GrottoHours x = Texts.town("guild 9 71 100;bound 71;");
        for (int seed = 0; seed < 30; seed++) {
            Check.same("no gifts without grottoes", 63, x.years(seed, 1, 1));
            Check.same("a silence in each", 10, x.years(seed, 10, 0));
        }
        GrottoHours y = Texts.town("grotto 1 0 0;");
        for (int seed = 0; seed < 30; seed++) {
            Check.same("no purses without guilds", 0, y.years(seed, 60, 1));
            Check.same("nothing is hired", 0, y.years(seed, 60, 2));
        }
        // What is drained, or dry, prays not: a silence.
        GrottoHours w = Texts.town("grotto 1 0 0;guild 0 73 0 hires 0;");
        for (int seed = 0; seed < 200; seed++) {
            int event = draw(next(seed), 7);
            int before = event == 0 ? next(next(next(seed))) : event < 3 ? next(next(seed)) : next(seed);
            boolean isSilent = event == 1 || draw(next(before), 4) == 0;
            Check.same("drained or dry", Check.bit(isSilent), w.years(seed, 1, 0));
        }
        // The wet that is drawn is what the rule sees, 0 to 3, and a dry one lets nothing drip.
        GrottoHours z = Texts.town("wet 9;grotto 1 0 0;guild 0 50 900 hires 0;costs wet;");
        for (int seed = 0; seed < 200; seed++) {
            int firstOne = next(seed);
            if (draw(firstOne, 7) > 2) {
                Check.same("wet by a draw", 900 - draw(next(firstOne), 4), z.years(seed, 1, 1));
            }
        }
    }
}
