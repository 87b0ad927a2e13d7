/** Promise 25, toHire: the GROTTO by which SIN would be least behind 1 to 60 HOURS. */
public final class Promise25ToHireTest {
    public static void main(String[] args) {
        Check.runAll(Promise25ToHireTest.class);
    }

    private static void toHire(GrottoHours x, int guild, int hours, int which, int sin) {
        Check.same("toHire(" + guild + ", " + hours + ", 0)", which, () -> x.toHire(guild, hours, 0));
        Check.same("toHire(" + guild + ", " + hours + ", 1)", sin, () -> x.toHire(guild, hours, 1));
    }

    static void promise25TheLeastSin() {
        GrottoHours x = Texts.town("grotto 4 0 0;grotto 2 0 0;hollow 4 0 0;grotto 1 0 0;guild 1 50 10 hires 1;"
            + "guild 1 50 10 hires 3;guild 1 50 10;");
        // In 4 hours grotto 0 prays once, 1 twice, 2 twice (it is hollow); 3 has been hired by guild 1.
        toHire(x, 0, 4, 1, 44);
        toHire(x, 0, 1, 2, 41);
        toHire(x, 1, 60, 3, 1);
        toHire(x, 1, 5, 3, 30);
        toHire(x, 2, 4, 2, 44);
        x.drain(2, true);
        toHire(x, 2, 4, 0, 49);
    }

    static void promise25OneToSixtyAreTaken() {
        // Grotto 2 prays in hours 0, 12 .. 48, grotto 1 in hours 11, 23 .. 59: as often behind the 60th alone.
        GrottoHours x = Texts.town("grotto 12 1 0;grotto 12 1 0;grotto 12 0 0;guild 1 30 0;guild 1 30 0 hires 0;");
        toHire(x, 0, 1, 2, 26);
        toHire(x, 0, 59, 2, 64);
        toHire(x, 0, 60, 1, 65);
        for (int wrong : Edges.outside(1, 60)) {
            Check.illegalArgument("toHire(0, " + wrong + ", 0)", () -> x.toHire(0, wrong, 0));
            Check.illegalArgument("toHire(1, " + wrong + ", 1)", () -> x.toHire(1, wrong, 1));
        }
        Facts.illegalArgument(x, "toHire(0, 0, 0)", () -> x.toHire(0, 0, 0));
        Facts.illegalArgument(x, "toHire(0, 61, 0)", () -> x.toHire(0, 61, 0));
    }

    static void promise25AnotherWhatComesFirst() {
        GrottoHours x = Texts.town("grotto 1 0 0;guild 1 50 10;");
        for (int wrong : Edges.outside(0, 1)) {
            for (int hours : new int[] {1, 60, 0, 61}) {
                Check.noSuchElement("toHire(0, " + hours + ", " + wrong + ")", () -> x.toHire(0, hours, wrong));
            }
        }
        Facts.noSuchElement(x, "toHire(0, 61, 2)", () -> x.toHire(0, 61, 2));
    }

    static void promise25NoSuchGuildComesFirst() {
        GrottoHours x = Texts.town("grotto 1 0 0;guild 1 50 10;guild 1 50 10;");
        for (int wrong : Edges.outside(0, 1)) {
            for (int hours : new int[] {1, 60, 0, 61}) {
                Check.noSuchElement("toHire(" + wrong + ", " + hours + ", 0)", () -> x.toHire(wrong, hours, 0));
            }
        }
        Facts.noSuchElement(x, "toHire(2, 61, 0)", () -> x.toHire(2, 61, 0));
        GrottoHours six = Texts.town("grotto 1 0 0;" + "guild 1 50 10;".repeat(6));
        toHire(six, 5, 1, 0, 46);
        Check.noSuchElement("the seventh", () -> six.toHire(6, 1, 0));
    }

    static void promise25OfLikeOnesTheLeast() {
        GrottoHours x = Texts.town(Edges.EIGHT_GROTTOES + "guild 1 50 10 hires 5;guild 1 50 10 hires 0;");
        toHire(x, 0, 3, 1, 38);
        toHire(x, 1, 3, 0, 38);
        x.dismiss(1);
        toHire(x, 0, 3, 0, 38);
        // Where none prays, the first is as good as its own.
        GrottoHours dry = Texts.town("wet 0;grotto 1 0 0;grotto 1 0 0;guild 1 50 10 hires 1;");
        toHire(dry, 0, 3, 0, 53);
    }

    static void promise25NoneWithoutAny() {
        GrottoHours taken = Texts.town("grotto 1 0 0;guild 1 1 1 hires 0;guild 1 1 1;");
        toHire(taken, 1, 5, -1, -1);
        toHire(taken, 0, 5, 0, 1);
        toHire(Texts.town("guild 1 1 1;"), 0, 60, -1, -1);
    }

    static void promise25ItsOwnIsOneOfThem() {
        GrottoHours x = Texts.town("grotto 1 0 0;grotto 2 1 0;guild 1 50 10 hires 0;guild 1 50 10;");
        toHire(x, 0, 3, 0, 38);
        toHire(x, 1, 3, 1, 48);
    }

    static void promise25TheLastOfEight() {
        GrottoHours x = Texts.town("grotto 2 1 0;".repeat(7) + "grotto 1 0 0;guild 1 50 10;");
        toHire(x, 0, 1, 7, 46);
    }

    static void promise25ASinOfNothing() {
        GrottoHours x = Texts.town("grotto 2 0 0;grotto 1 0 0;guild 0 5 10;");
        // Both pray all away: sin 0 is an answer, and no less than 0.
        toHire(x, 0, 9, 0, 0);
    }

    static void promise25ByWhatCanBePaid() {
        // The dear one is dismissed in the first hour, but has prayed all away by then.
        GrottoHours x = Texts.town("grotto 2 0 1;grotto 1 0 20;guild 1 50 10;prays price*3+drip;");
        toHire(x, 0, 3, 1, 3);
        x.drain(1, true);
        toHire(x, 0, 3, 0, 43);
        // Behind many hours the one that stays is better.
        GrottoHours y = Texts.town("grotto 1 0 20;grotto 1 0 1;guild 1 50 10;prays price;");
        toHire(y, 0, 1, 0, 31);
        toHire(y, 0, 60, 1, 50);
    }

    static void promise25InPlaceOfItsOwn() {
        // Its own prays no more for it, had it hired another one.
        GrottoHours x = Texts.town("grotto 1 0 0;hollow 1 0 0;guild 0 50 10 hires 0;");
        toHire(x, 0, 2, 1, 30);
        Check.same("it hasn't hired it", 0, x.guild(0, 4));
        Check.same("no act", 0, x.count(9));
    }

    static void promise25ChangesNothing() {
        GrottoHours x = Texts.town("grotto 1 0 9;grotto 1 0 9;guild 9 65 20 hires 0;");
        x.hours(1);
        Facts before = Facts.of(x);
        x.toHire(0, 60, 0);
        x.toHire(0, 60, 1);
        before.areSo("toHire", x);
    }
}
