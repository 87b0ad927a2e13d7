/** Promise 5, count: each of its numbers at both ends. */
public final class Promise05CountTest {
    public static void main(String[] args) {
        Check.runAll(Promise05CountTest.class);
    }

    static void promise05AnotherWhat() {
        GrottoHours x = Texts.town("grotto 1 0 0;guild 1 1 1;");
        for (int wrong : Edges.outside(0, 14)) {
            Facts.noSuchElement(x, "count(" + wrong + ")", () -> x.count(wrong));
        }
    }

    static void promise05Grottoes() {
        Check.same("none", 0, Texts.town("guild 1 1 1;").count(0));
        for (int many = 1; many <= 8; many++) {
            Check.same(many + " grottoes", many, Texts.town("hollow 1 0 0;".repeat(many)).count(0));
        }
    }

    static void promise05Guilds() {
        Check.same("none", 0, Texts.town("grotto 1 0 0;").count(1));
        for (int many = 1; many <= 6; many++) {
            Check.same(many + " guilds", many, Texts.town("guild 0 0 0;".repeat(many)).count(1));
        }
    }

    static void promise05TheHour() {
        GrottoHours x = Texts.town("");
        Check.same("hour 0", 0, x.count(2));
        x.hours(1);
        Check.same("hour 1", 1, x.count(2));
        Check.same("hour 999", 999, Edges.townInHour(999, "").count(2));
    }

    static void promise05WetGoesRound() {
        GrottoHours x = Texts.town("wet 3 0 9;");
        int[] want = {3, 0, 9, 3, 0, 9, 3};
        for (int i = 0; i < want.length; i++) {
            Check.same("wet of hour " + i, want[i], x.count(3));
            x.hours(1);
        }
        Check.same("wet of hour 999", 7, Edges.townInHour(999, "wet 0 1 2 3 4 5 6 7;").count(3));
        Check.same("wet of hour 992", 0, Edges.townInHour(992, "wet 0 1 2 3 4 5 6 7;").count(3));
    }

    static void promise05WetWithout() {
        GrottoHours x = Texts.town("grotto 1 0 0;");
        Check.same("5 without", 5, x.count(3));
        x.hours(7);
        Check.same("5 in each hour", 5, x.count(3));
        Check.same("5 in hour 999", 5, Edges.townInHour(999, "").count(3));
        Check.same("0 is told", 0, Texts.town("wet 0;").count(3));
    }

    static void promise05TheBound() {
        Check.same("without", 70, Texts.town("").count(4));
        Check.same("the least", 1, Texts.town("bound 1;").count(4));
        Check.same("the most", 99, Texts.town("bound 99;").count(4));
    }

    static void promise05HiredBits() {
        Check.same("none", 0, Texts.town(Edges.EIGHT_GROTTOES + Edges.SIX_GUILDS).count(5));
        Check.same("the first", 1, Texts.town("grotto 1 0 0;guild 0 0 0 hires 0;").count(5));
        Check.same("the last", 128, Texts.town(Edges.EIGHT_GROTTOES + "guild 0 0 0 hires 7;").count(5));
        StringBuilder six = new StringBuilder(Edges.EIGHT_GROTTOES);
        for (int i = 2; i < 8; i++) {
            six.append("guild 0 0 0 hires ").append(i).append(";");
        }
        GrottoHours x = Texts.town(six.toString());
        Check.same("six of eight", 252, x.count(5));
        x.dismiss(5);
        Check.same("five of eight", 124, x.count(5));
    }

    static void promise05DrainedBits() {
        GrottoHours x = Texts.town(Edges.EIGHT_GROTTOES);
        Check.same("none", 0, x.count(6));
        for (int i = 0; i < 8; i++) {
            x.drain(i, true);
            Check.same((i + 1) + " of them", (2 << i) - 1, x.count(6));
        }
        x.drain(0, false);
        Check.same("all but the first", 254, x.count(6));
    }

    static void promise05PursesOfAll() {
        Check.same("without guilds", 0, Texts.town("grotto 1 0 0;").count(7));
        Check.same("of none", 0, Texts.town(Edges.SIX_GUILDS).count(7));
        Check.same("the most", 5994, Texts.town("guild 9 99 999;".repeat(6)).count(7));
        Check.same("some", 1 + 20 + 300, Texts.town("guild 9 4 1;guild 9 5 20;guild 9 6 300;").count(7));
    }

    static void promise05SinOfAll() {
        Check.same("without guilds", 0, Texts.town("grotto 1 0 0;").count(8));
        Check.same("of none", 0, Texts.town(Edges.SIX_GUILDS).count(8));
        Check.same("the most", 594, Texts.town("guild 9 99 999;".repeat(6)).count(8));
        Check.same("some", 4 + 5 + 6, Texts.town("guild 9 4 1;guild 9 5 20;guild 9 6 300;").count(8));
    }

    static void promise05ActsThatAreKept() {
        GrottoHours x = Texts.town("guild 0 0 0;");
        for (int i = 1; i <= 42; i++) {
            x.give(0, 1);
            Check.same("acts", Math.min(i, 40), x.count(9));
        }
        for (int i = 39; i >= 0; i--) {
            x.undo();
            Check.same("acts", i, x.count(9));
        }
        x.undo();
        Check.same("none", 0, x.count(9));
    }

    static void promise05WhatIsSeen() {
        GrottoHours x = Texts.town("guild 0 0 0;");
        for (int i = 1; i <= 10; i++) {
            x.see(0, 0, 0);
            Check.same("seen", Math.min(i, 8), x.count(10));
        }
        x.forget();
        Check.same("none", 0, x.count(10));
    }

    static void promise05BytesOfTheTape() {
        GrottoHours x = Texts.town("");
        for (int i = 1; i <= 36; i++) {
            x.feed(0, 0, 0, 0, 0);
            Check.same("bytes", Math.min(20 * i, 700), x.count(11));
        }
        Check.illegalArgument("port(701)", () -> x.port(701));
        Check.same("bytes still", 700, x.count(11));
        x.port(1);
        Check.same("none", 0, x.count(11));
    }

    static void promise05StatusOfEachKind() {
        GrottoHours x = Texts.town("guild 0 0 0;");
        for (int i = 1; i <= 3; i++) {
            Texts.port(x, "#");
        }
        for (int i = 1; i <= 5; i++) {
            x.hours(21);
        }
        for (int i = 1; i <= 7; i++) {
            x.see(0, 0, 100);
        }
        Check.same("texts", 3, x.count(12));
        Check.same("acts", 5, x.count(13));
        Check.same("what is seen", 7, x.count(14));
    }

    static void promise05StatusHasNoEndInSight() {
        GrottoHours x = Texts.town("guild 0 0 0;");
        for (int i = 1; i <= 300; i++) {
            x.hours(0);
        }
        Check.same("acts", 300, x.count(13));
    }

    static void promise05AskingChangesNothing() {
        GrottoHours x = Texts.town("wet 0 3 7;grotto 3 2 4;guild 4 30 200 hires 0;bound 98;");
        x.hours(2);
        Facts.of(x).areSo("asked twice", x);
    }
}
