/** Promise 26, shared: as many GUILDS as can have each another GROTTO, by the least PRICES. */
public final class Promise26SharedTest {
    public static void main(String[] args) {
        Check.runAll(Promise26SharedTest.class);
    }

    private static void shared(String text, int many, int much) {
        shared(Texts.town(text), many, much);
    }

    private static void shared(GrottoHours x, int many, int much) {
        Check.same("shared(0)", many, x.shared(0));
        Check.same("shared(1)", much, x.shared(1));
    }

    static void promise26AnotherWhat() {
        GrottoHours x = Texts.town("grotto 1 0 0;guild 1 1 1;");
        for (int wrong : Edges.outside(0, 1)) {
            Facts.noSuchElement(x, "shared(" + wrong + ")", () -> x.shared(wrong));
        }
    }

    static void promise26NothingToShare() {
        shared("", 0, 0);
        shared("guild 1 1 999;", 0, 0);
        shared("grotto 1 0 0;", 0, 0);
    }

    static void promise26TenTimesThePriceIsEnough() {
        shared("grotto 1 0 20;guild 0 0 200;", 1, 20);
        shared("grotto 1 0 20;guild 0 0 199;", 0, 0);
        shared("grotto 1 0 1;guild 0 0 10;", 1, 1);
        shared("grotto 1 0 1;guild 0 0 9;", 0, 0);
        shared("grotto 1 0 0;guild 0 0 0;", 1, 0);
    }

    static void promise26ByThePurseOfNow() {
        GrottoHours x = Texts.town("grotto 1 0 20;guild 0 0 199;");
        shared(x, 0, 0);
        x.give(0, 1);
        shared(x, 1, 20);
        x.undo();
        shared(x, 0, 0);
    }

    static void promise26ManyComeAheadOfCheap() {
        // One alone would be cheaper, and the greedy choice of 5 for guild 0 would leave guild 1 without.
        shared("grotto 1 0 5;grotto 1 0 20;guild 0 0 200;guild 0 0 50;", 2, 25);
        shared("grotto 1 0 20;grotto 1 0 5;guild 0 0 50;guild 0 0 200;", 2, 25);
        // Three can, if each takes the dearest that it can have.
        shared("grotto 1 0 10;grotto 1 0 5;grotto 1 0 7;guild 0 0 100;guild 0 0 70;guild 0 0 50;", 3, 22);
        shared("grotto 1 0 10;grotto 1 0 5;grotto 1 0 7;guild 0 0 100;guild 0 0 69;guild 0 0 50;", 2, 12);
    }

    static void promise26TheLeastPrices() {
        shared("grotto 1 0 9;grotto 1 0 3;grotto 1 0 7;grotto 1 0 5;guild 0 0 999;guild 0 0 999;", 2, 8);
        shared("grotto 1 0 9;grotto 1 0 3;grotto 1 0 7;grotto 1 0 5;guild 0 0 999;guild 0 0 30;", 2, 8);
        shared("grotto 1 0 20;grotto 1 0 0;guild 0 0 999;", 1, 0);
    }

    static void promise26AllEightAndAllSix() {
        shared("grotto 1 0 20;".repeat(8) + "guild 0 0 999;".repeat(6), 6, 120);
        shared("grotto 1 0 20;".repeat(8) + "guild 0 0 199;".repeat(6), 0, 0);
        shared("grotto 1 0 20;".repeat(5) + "guild 0 0 200;".repeat(6), 5, 100);
        shared("grotto 1 0 0;".repeat(8) + "guild 0 0 0;".repeat(6), 6, 0);
        shared("grotto 1 0 20;grotto 1 0 19;grotto 1 0 18;grotto 1 0 17;grotto 1 0 16;grotto 1 0 15;grotto 1 0 14;"
            + "grotto 1 0 13;" + "guild 0 0 999;".repeat(6), 6, 18 + 17 + 16 + 15 + 14 + 13);
    }

    static void promise26AllAreFree() {
        GrottoHours x = Texts.town("grotto 1 0 5;grotto 1 0 3;guild 0 0 30;guild 0 0 50 hires 1;");
        shared(x, 2, 8);
        x.drain(0, true);
        x.drain(1, true);
        shared(x, 2, 8);
    }

    static void promise26ThePriceWhateverCostsGives() {
        shared("grotto 1 0 5;guild 0 0 50 hires 0;costs 50;", 1, 5);
        shared("grotto 1 0 5;guild 0 0 49 hires 0;costs 0;", 0, 0);
    }
}
