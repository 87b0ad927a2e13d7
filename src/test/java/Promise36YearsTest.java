/** Promise 36, years: 0 to 60 HOURS by a seed. */
public final class Promise36YearsTest {
    public static void main(String[] args) {
        Check.runAll(Promise36YearsTest.class);
    }

    private static int next(int seed) {
        return seed * 1103515245 + 12345;
    }

    /** A DRAW by a seed that has become so: its bits 16 to 30 MOD n. */
    private static int draw(int seed, int n) {
        return (seed & 0x7fff0000) / 65536 % n;
    }

    static void promise36NoHours() {
        GrottoHours x = Texts.town("grotto 1 0 2;grotto 1 0 2;guild 4 99 20 hires 0;guild 9 99 500;");
        for (int seed : new int[] {0, 1, -1, Integer.MIN_VALUE, Integer.MAX_VALUE}) {
            Check.same("silences", 0, x.years(seed, 0, 0));
            Check.same("purses", 520, x.years(seed, 0, 1));
            Check.same("hired", 1, x.years(seed, 0, 2));
        }
    }

    static void promise36OneHourByHand() {
        // 1 becomes 1103527590: bits 16838, MOD 7 is 3, nothing ahead; then bits 5758, MOD 4 is 2: wet.
        GrottoHours x = Texts.town("grotto 1 0 2;hollow 2 0 3;guild 4 60 20 hires 0;guild 9 69 500;prays 0;");
        Check.same("silences", 1, x.years(1, 1, 0));
        Check.same("purses", 30 + 263, x.years(1, 1, 1));
        Check.same("hired", 1, x.years(1, 1, 2));
    }

    static void promise36ZeroToSixtyAreTaken() {
        GrottoHours x = Texts.town("guild 0 99 0;");
        Check.same("59 silences", 59, x.years(1, 59, 0));
        Check.same("60 silences", 60, x.years(1, 60, 0));
        for (int wrong : Edges.outside(0, 60)) {
            for (int what = 0; what < 3; what++) {
                int which = what;
                Check.illegalArgument("years(1, " + wrong + ", " + what + ")", () -> x.years(1, wrong, which));
            }
        }
        Facts.illegalArgument(x, "years(1, -1, 0)", () -> x.years(1, -1, 0));
        Facts.illegalArgument(x, "years(1, 61, 0)", () -> x.years(1, 61, 0));
    }

    static void promise36AnotherWhatComesFirst() {
        GrottoHours x = Texts.town("guild 0 99 0;");
        for (int wrong : Edges.outside(0, 2)) {
            for (int n : new int[] {0, 60, -1, 61}) {
                Check.noSuchElement("years(1, " + n + ", " + wrong + ")", () -> x.years(1, n, wrong));
            }
        }
        Facts.noSuchElement(x, "years(1, 61, 3)", () -> x.years(1, 61, 3));
    }

    static void promise36SilencesOfAll() {
        GrottoHours x = Texts.town("guild 0 99 0;".repeat(6));
        Check.same("six in each hour", 360, x.years(7, 60, 0));
        Check.same("one hour", 6, x.years(7, 1, 0));
        x.hours(20);
        Check.same("those that were count not", 6, x.years(7, 1, 0));
    }

    static void promise36Where999SilencesAreKept() {
        GrottoHours x = Edges.townInHour(999, "guild 0 99 0;guild 0 70 0;");
        Check.same("999 silences", 999, x.guild(0, 3));
        Check.same("60 more come", 60, x.years(7, 60, 0));
    }

    static void promise36SeedsAtTheirEnds() {
        // Bits 16 to 30: whatever the sign is, a DRAW is never below 0.
        for (int seed : new int[] {0, 1, -1, Integer.MIN_VALUE, Integer.MAX_VALUE, 12345, -12345, 65535, 65536, 1 << 30}) {
            int first = next(seed);
            int second = next(first);
            GrottoHours x = Texts.town("wet 9;grotto 1 0 0;guild 0 50 900 hires 0;costs wet+1;");
            int event = draw(first, 7);
            if (event > 2) {
                Check.same("wet by seed " + seed, 899 - draw(second, 4), x.years(seed, 1, 1));
            } else {
                int wet = event == 0 ? next(next(second)) : next(second);
                Check.same("wet by seed " + seed, (event == 2 ? 919 : 899) - draw(wet, 4), x.years(seed, 1, 1));
            }
        }
    }

    static void promise36Event0Hires() {
        // Guild 0 has grotto 0 for 2; the others cost 3, 5 and 9. Purses tell who has what.
        int[] prices = {2, 3, 5, 9};
        int many = 0;
        for (int seed = 0; seed < 400; seed++) {
            int second = next(next(seed));
            int third = next(second);
            if (draw(next(seed), 7) == 0) {
                many++;
                GrottoHours x = Texts.town("grotto 1 0 2;grotto 1 0 3;grotto 1 0 5;grotto 1 0 9;"
                    + "guild 0 0 100 hires 0;guild 0 0 500;guild 0 0 300;");
                int grotto = draw(third, 4);
                boolean isOther = draw(second, 3) > 0;
                int cost = grotto == 0 ? 2 : isOther ? 2 + prices[grotto] : prices[grotto];
                Check.same("hired by seed " + seed, grotto > 0 && isOther ? 2 : 1, x.years(seed, 1, 2));
                Check.same("purses by seed " + seed, 900 - cost, x.years(seed, 1, 1));
            }
        }
        Check.isTrue("often enough", many > 20);
    }

    static void promise36Event1DrainsOrLetsFlow() {
        // Sin 75 is silent where nothing is prayed away: 70 is not.
        int many = 0;
        for (int seed = 0; seed < 400; seed++) {
            int second = next(next(seed));
            int third = next(second);
            if (draw(next(seed), 7) == 1) {
                many++;
                GrottoHours x = Texts.town("grotto 1 0 0;grotto 1 0 0;grotto 1 0 0;guild 0 75 0 hires 1;");
                boolean isDry = draw(third, 4) == 0;
                boolean isIts = draw(second, 3) == 1;
                Check.same("drained by seed " + seed, isDry || isIts ? 1 : 0, x.years(seed, 1, 0));
                x.drain(1, true);
                Check.same("flows by seed " + seed, isDry || !isIts ? 1 : 0, x.years(seed, 1, 0));
            }
        }
        Check.isTrue("often enough", many > 20);
    }

    static void promise36Event2Gives20To999AtMost() {
        int many = 0;
        for (int seed = 0; seed < 400; seed++) {
            if (draw(next(seed), 7) == 2) {
                many++;
                int guild = draw(next(next(seed)), 3);
                Check.same("20 by seed " + seed, 119 + 100 + 20,
                    Texts.town("grotto 1 0 0;guild 0 0 119;guild 0 0 100;").years(seed, 1, 1));
                Check.same("999 at most by seed " + seed, 980 + 979 + 990 + new int[] {19, 20, 9}[guild],
                    Texts.town("grotto 1 0 0;guild 0 0 980;guild 0 0 979;guild 0 0 990;").years(seed, 1, 1));
            }
        }
        Check.isTrue("often enough", many > 20);
    }

    static void promise36OtherEventsDoNothing() {
        for (int seed = 0; seed < 100; seed++) {
            if (draw(next(seed), 7) > 2) {
                GrottoHours x = Texts.town("grotto 1 0 0;guild 0 0 119;guild 0 0 100;");
                Check.same("purses by seed " + seed, 219, x.years(seed, 1, 1));
                Check.same("hired by seed " + seed, 0, x.years(seed, 1, 2));
            }
        }
    }

    static void promise36WetIsADrawOfFour() {
        boolean[] met = new boolean[4];
        for (int seed = 0; seed < 100; seed++) {
            int first = next(seed);
            if (draw(first, 7) > 2) {
                int wet = draw(next(first), 4);
                met[wet] = true;
                GrottoHours x = Texts.town("wet 9;grotto 1 0 0;guild 0 75 900 hires 0;costs wet;");
                // A dry one prays not: a silence halves.
                Check.same("purse by seed " + seed, wet == 0 ? 450 : 900 - wet, x.years(seed, 1, 1));
                Check.same("silences by seed " + seed, wet == 0 ? 1 : 0, x.years(seed, 1, 0));
            }
        }
        Check.isTrue("each of four", met[0] && met[1] && met[2] && met[3]);
    }

    static void promise36WithoutGuildsOrGrottoesJustTwoDraws() {
        // Each hour's draws of 7 and 4 alone: the wet of each hour is each second draw.
        GrottoHours none = Texts.town("guild 0 50 100;guild 9 71 100;bound 71;");
        GrottoHours town = Texts.town("grotto 1 0 0;");
        for (int seed = -15; seed < 15; seed++) {
            Check.same("no gifts without grottoes", 100 + 63, none.years(seed, 1, 1));
            Check.same("a silence in each hour", 10, none.years(seed, 10, 0));
            Check.same("no purses without guilds", 0, town.years(seed, 60, 1));
            Check.same("nothing is hired", 0, town.years(seed, 60, 2));
            Check.same("no silences", 0, town.years(seed, 60, 0));
        }
    }

    static void promise36ManyHoursGoOnFromOneDrawToTheNext() {
        // Nothing is prayed or paid by a rule but 1 for each hour's wet: all draws are made again here.
        for (int seed = 1; seed < 40; seed++) {
            GrottoHours x = Texts.town("grotto 1 0 0;guild 0 0 900 hires 0;costs wet;");
            int now = seed;
            int purse = 900;
            int n = 1 + seed % 9;
            for (int i = 0; i < n; i++) {
                now = next(now);
                int event = draw(now, 7);
                if (event == 0) {
                    now = next(next(now));
                } else if (event < 3) {
                    now = next(now);
                    purse += event == 2 ? 20 : 0;
                }
                now = next(now);
                purse = Math.min(999, purse) - draw(now, 4);
            }
            Check.same("purse by seed " + seed, purse, x.years(seed, n, 1));
        }
    }

    static void promise36FromNowOnAndPastHour999() {
        // The hour that rules see goes on from now: it costs 7 in hour 1000 alone, the second one from 999.
        GrottoHours x = Edges.townInHour(999, "grotto 1 0 0;guild 0 0 900 hires 0;costs (hour=1000)*7;");
        int gifts = gifts(5, 2);
        Check.same("one hour", 900 + gifts(5, 1), x.years(5, 1, 1));
        Check.same("two hours", 893 + gifts, x.years(5, 2, 1));
    }

    private static int gifts(int seed, int n) {
        int now = seed;
        int gifts = 0;
        for (int i = 0; i < n; i++) {
            now = next(now);
            int event = draw(now, 7);
            gifts += event == 2 ? 20 : 0;
            now = event == 0 ? next(next(next(now))) : event < 3 ? next(next(now)) : next(now);
        }
        return gifts;
    }

    static void promise36ChangesNothing() {
        GrottoHours x = Texts.town("wet 3;grotto 1 0 9;hollow 2 0 1;guild 9 65 90 hires 0;guild 1 1 1;");
        x.hours(1);
        Facts before = Facts.of(x);
        for (int what = 0; what < 3; what++) {
            x.years(99, 60, what);
        }
        before.areSo("years", x);
        Check.same("the same seed again", x.years(99, 60, 1), x.years(99, 60, 1));
    }
}
