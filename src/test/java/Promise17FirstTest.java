/** Promise 17, first: behind how many of 60 HOURS a SILENCE has come. */
public final class Promise17FirstTest {
    public static void main(String[] args) {
        Check.runAll(Promise17FirstTest.class);
    }

    static void promise17BehindTheFirstHour() {
        Check.same("71 at once", 1, Texts.town("guild 0 71 0;").first(0));
        Check.same("70 and 1", 1, Texts.town("guild 1 70 0;").first(0));
        Check.same("69 and 1", 2, Texts.town("guild 1 69 0;").first(0));
        Check.same("60 and 9 and 9", 2, Texts.town("guild 9 60 0;").first(0));
    }

    static void promise17BehindThe60thButNotThe61st() {
        GrottoHours x = Texts.town("guild 1 11 0;guild 1 10 0;");
        Check.same("11 and 60 are 71", 60, x.first(0));
        Check.same("10 and 60 are 70", -1, x.first(1));
        x.hours(1);
        Check.same("an hour on", 59, x.first(0));
        Check.same("an hour on", 60, x.first(1));
    }

    static void promise17None() {
        GrottoHours x = Texts.town("guild 0 70 0;guild 9 99 0;");
        Check.same("at the bound", -1, x.first(0));
        Check.same("99 is never above 99", -1, Texts.town("guild 9 99 0;bound 99;").first(0));
        Check.same("the other one", 1, x.first(1));
    }

    static void promise17SilencesThatWereCountNot() {
        GrottoHours x = Texts.town("guild 0 71 100;");
        x.hours(5);
        Check.same("five silences", 5, x.guild(0, 3));
        Check.same("the next one", 1, x.first(0));
        // The purse is 3 by now.
        x.give(0, 100);
        x.confess(0);
        Check.same("35 is below", -1, x.first(0));
    }

    static void promise17ByWhatIsPrayedAway() {
        // Each hour 5 are prayed away and 7 come: 60, 62 .. 72 behind six; by and by it can't pay.
        Check.same("behind six", 6, Texts.town("grotto 1 0 0;guild 7 60 0 hires 0;").first(0));
        Check.same("dry hours", 2, Texts.town("wet 0;grotto 1 0 0;guild 7 60 0 hires 0;").first(0));
        // It pays 20 of 21, then hasn't 20 of 4: 70, 70, and 71 without a prayer.
        Check.same("dismissed", 3, Texts.town("grotto 1 0 20;guild 1 70 18 hires 0;prays 1;").first(0));
    }

    static void promise17ByTheWetOfEachHour() {
        // 5 less and 3 more in a wet hour, 3 more in a dry one: 67, 65, 68, 71; and 72, if hour 0 is dry.
        Check.same("dry in hours 2 and 3", 4, Texts.town("wet 9 1 0 0;grotto 1 0 0;guild 3 69 0 hires 0;").first(0));
        Check.same("dry in hour 0 alone", 1, Texts.town("wet 0 9 9 9;grotto 1 0 0;guild 3 69 0 hires 0;").first(0));
        Check.same("by what the rule sees", 3,
            Texts.town("wet 7 7 0;grotto 1 0 0;guild 7 64 0 hires 0;prays wet;").first(0));
        GrottoHours x = Texts.town("wet 9 1 0 0;grotto 1 0 0;guild 3 67 0 hires 0;");
        Check.same("dry in hours 2, 3, 6 and 7", 8, x.first(0));
        x.drain(0, true);
        Check.same("drained", 2, x.first(0));
    }

    static void promise17Where998Or999AreKept() {
        // Guild 0 is silent in each hour; 1 always but for what it confesses; 2 never.
        GrottoHours x = Edges.townInHour(998, "guild 0 99 0;guild 1 99 0;guild 0 70 0;");
        Check.same("998 silences", 998, x.guild(0, 3));
        Check.same("first(0) with 998", 1, x.first(0));
        x.hours(1);
        Check.same("999 silences", 999, x.guild(0, 3));
        Check.same("first(0) with 999", 1, x.first(0));
        Check.same("first(1) with 999", 1, x.first(1));
        Check.same("first(2) in hour 999", -1, x.first(2));
        x.give(1, 100);
        Check.same("confess(1)", 49, x.confess(1));
        // 49 and 22 is 71, more than 70.
        Check.same("first(1) with 999, confessed", 22, x.first(1));
        x.give(0, 100);
        x.confess(0);
        Check.same("first(0) with 999, confessed", -1, x.first(0));
        Check.same("none are added to 999", 999, x.then(1, 60, 2));
    }

    static void promise17NoSuchGuild() {
        GrottoHours x = Texts.town("guild 0 71 0;guild 0 71 0;");
        for (int wrong : Edges.outside(0, 1)) {
            Facts.noSuchElement(x, "first(" + wrong + ")", () -> x.first(wrong));
        }
        GrottoHours six = Texts.town("guild 0 71 0;".repeat(6));
        Check.same("the last of six", 1, six.first(5));
        Check.noSuchElement("the seventh", () -> six.first(6));
    }
}
