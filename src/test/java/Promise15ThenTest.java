/** Promise 15, then: a GUILD behind 0 to 60 HOURS. */
public final class Promise15ThenTest {
    public static void main(String[] args) {
        Check.runAll(Promise15ThenTest.class);
    }

    static void promise15HourByHour() {
        GrottoHours x = Texts.town("grotto 2 0 10;guild 3 68 12 hires 0;guild 0 5 5;");
        // Hour 0: 68-5+3 is 66, 12+9-10 is 11. Hour 1: 69, 10. Hour 2: 67, 9. Hour 3: 70, 8. Hour 4: 68, 7.
        // Hour 5: 71, 6, a silence: 3. Hour 6: 69, 2. Hour 7: 72, 1, a silence: 0. Hour 8: 70, 9 is less than 10.
        int[][] want = {{68, 12, 0, 0}, {66, 11, 0, 0}, {69, 10, 0, 0}, {67, 9, 0, 0}, {70, 8, 0, 0}, {68, 7, 0, 0},
            {71, 3, 1, 0}, {69, 2, 1, 0}, {72, 0, 2, 0}, {70, 9, 2, -1}, {73, 9, 3, -1}};
        for (int i = 0; i < want.length; i++) {
            for (int j = 0; j < 4; j++) {
                int hours = i;
                int what = j;
                Check.same("then(0, " + i + ", " + j + ")", want[i][j], () -> x.then(0, hours, what));
                Check.same("then(1, " + i + ", " + j + ")", new int[] {5, 5, 0, -1}[j], () -> x.then(1, hours, what));
            }
        }
    }

    static void promise15BehindNoHours() {
        GrottoHours x = Texts.town("grotto 1 0 1;guild 9 99 999 hires 0;guild 1 2 3;");
        x.hours(1);
        for (int guild = 0; guild < 2; guild++) {
            for (int what = 0; what < 4; what++) {
                Check.same("then(" + guild + ", 0, " + what + ")", x.guild(guild, what + 1), x.then(guild, 0, what));
            }
        }
    }

    static void promise15SixtyHoursAreTakenSixtyOneAreNot() {
        GrottoHours x = Texts.town("guild 1 10 0;guild 1 10 0;");
        Check.same("sin behind 60", 70, x.then(0, 60, 0));
        Check.same("purse behind 60", 180, x.then(0, 60, 1));
        Check.same("sin behind 59", 69, x.then(0, 59, 0));
        for (int wrong : Edges.outside(0, 60)) {
            Check.illegalArgument("then(0, " + wrong + ", 0)", () -> x.then(0, wrong, 0));
            Check.illegalArgument("then(1, " + wrong + ", 3)", () -> x.then(1, wrong, 3));
        }
        Facts.illegalArgument(x, "then(0, 61, 0)", () -> x.then(0, 61, 0));
        Facts.illegalArgument(x, "then(0, -1, 0)", () -> x.then(0, -1, 0));
    }

    static void promise15AnotherWhatComesFirst() {
        GrottoHours x = Texts.town("guild 1 10 0;");
        for (int wrong : Edges.outside(0, 3)) {
            for (int hours : new int[] {0, 60, -1, 61}) {
                Check.noSuchElement("then(0, " + hours + ", " + wrong + ")", () -> x.then(0, hours, wrong));
            }
        }
        Facts.noSuchElement(x, "then(0, 61, 4)", () -> x.then(0, 61, 4));
    }

    static void promise15NoSuchGuildComesFirst() {
        GrottoHours x = Texts.town("guild 1 10 0;guild 1 10 0;");
        for (int wrong : Edges.outside(0, 1)) {
            for (int hours : new int[] {0, 60, -1, 61}) {
                Check.noSuchElement("then(" + wrong + ", " + hours + ", 0)", () -> x.then(wrong, hours, 0));
                Check.noSuchElement("then(" + wrong + ", " + hours + ", 4)", () -> x.then(wrong, hours, 4));
            }
        }
        Facts.noSuchElement(x, "then(2, 61, 0)", () -> x.then(2, 61, 0));
        GrottoHours six = Texts.town("guild 1 10 0;".repeat(6));
        Check.same("the last of six", 11, six.then(5, 1, 0));
        Check.noSuchElement("the seventh", () -> six.then(6, 1, 0));
    }

    static void promise15EndsOfEachNumber() {
        GrottoHours x = Texts.town("grotto 1 0 0;guild 9 50 950;guild 0 50 0 hires 0;bound 99;");
        Check.same("sin is 99 at most", 99, x.then(0, 60, 0));
        Check.same("purse is 999 at most", 999, x.then(0, 60, 1));
        Check.same("no silences", 0, x.then(0, 60, 2));
        Check.same("no grotto", -1, x.then(0, 60, 3));
        Check.same("sin is 0 at least", 0, x.then(1, 60, 0));
        Check.same("purse", 0, x.then(1, 60, 1));
        Check.same("the grotto", 0, x.then(1, 60, 3));
    }

    static void promise15GoesOnBehindHour999() {
        GrottoHours x = Edges.townInHour(999, "wet 1 0;grotto 7 0 0;guild 0 99 0 hires 0;bound 99;prays 1;");
        // Hours 1001, 1008, 1015 .. 1057 come round, of which 1008, 1022, 1036, 1050 are wet ones.
        Check.same("72 times prayed", 27, x.guild(0, 1));
        Check.same("behind 9", 27, x.then(0, 9, 0));
        Check.same("behind 10", 26, x.then(0, 10, 0));
        Check.same("behind 60", 23, x.then(0, 60, 0));
    }

    static void promise15SilencesAre999AtMost() {
        GrottoHours x = Edges.townInHour(979, "guild 0 99 0;");
        Check.same("behind 19", 998, x.then(0, 19, 2));
        Check.same("behind 20", 999, x.then(0, 20, 2));
        Check.same("behind 21", 999, x.then(0, 21, 2));
        Check.same("behind 60", 999, x.then(0, 60, 2));
    }

    static void promise15DrainedAndDry() {
        GrottoHours x = Texts.town("wet 0 1;grotto 1 0 0;guild 0 50 0 hires 0;");
        Check.same("behind 1, a dry one", 50, x.then(0, 1, 0));
        Check.same("behind 2", 45, x.then(0, 2, 0));
        Check.same("behind 3", 45, x.then(0, 3, 0));
        x.drain(0, true);
        Check.same("drained", 50, x.then(0, 60, 0));
    }

    static void promise15ChangesNothing() {
        GrottoHours x = Texts.town("grotto 1 0 9;guild 9 65 20 hires 0;");
        x.hours(1);
        Facts before = Facts.of(x);
        x.then(0, 60, 0);
        before.areSo("then(0, 60, 0)", x);
        Check.same("undo()", 0, x.undo());
    }
}
