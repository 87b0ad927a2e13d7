/** Promise 3, port: which bytes it takes, what it makes anew, what a FAULT leaves. */
public final class Promise03PortTest {
    public static void main(String[] args) {
        Check.runAll(Promise03PortTest.class);
    }

    private static final String TOWN = "grotto 2 0 3;grotto 1 0 1;guild 1 10 100 hires 0;wet 1 0;bound 9;prays 3;costs 4;";

    /** In HOUR 3 with all that a port takes away: ACTS, what is SEEN, an image, a drained GROTTO. */
    private static GrottoHours usedTown() {
        GrottoHours x = Texts.town(TOWN);
        x.hours(3);
        x.drain(1, true);
        x.see(0, 1, 5);
        x.image();
        return x;
    }

    static void promise03NoneOfTheBytes() {
        GrottoHours x = Texts.town(TOWN);
        Texts.feed(x, "bound 7;");
        Check.same("port(0)", 0, x.port(0));
        Check.same("the tape is empty", 0, x.count(11));
        Check.same("no grottoes", 0, x.count(0));
        Check.same("no guilds", 0, x.count(1));
        Check.same("wet is untold", 5, x.count(3));
        Check.same("the bound is untold", 70, x.count(4));
        Check.same("port(0) of an empty tape", 0, x.port(0));
    }

    static void promise03AllOfTheBytes() {
        GrottoHours x = new GrottoHours();
        Texts.feed(x, "wet 1;bound 7;wet 2;");
        Check.same("port(20)", 5, x.port(20));
        Check.same("the last line is read too", 14, x.fault());
    }

    static void promise03OneByteMoreThanTheTapeHas() {
        GrottoHours x = usedTown();
        Texts.feed(x, "bound 7;");
        Facts.illegalArgument(x, "port(21)", () -> x.port(21));
        Facts.illegalArgument(x, "port(most)", () -> x.port(Integer.MAX_VALUE));
        Check.same("the bytes are there still", 0, x.port(20));
        Check.same("the bound", 7, x.count(4));
    }

    static void promise03OneByteOfAnEmptyTape() {
        GrottoHours x = usedTown();
        Facts.illegalArgument(x, "port(1)", () -> x.port(1));
        Check.isTrue("the image is there still", x.restore());
        Check.same("the acts are there still", 1, x.undo());
    }

    static void promise03BelowZero() {
        GrottoHours x = usedTown();
        Texts.feed(x, "bound 7;");
        Facts.illegalArgument(x, "port(-1)", () -> x.port(-1));
        Facts.illegalArgument(x, "port(least)", () -> x.port(Integer.MIN_VALUE));
        Check.same("the bytes are there still", 0, x.port(8));
        Check.same("the bound", 7, x.count(4));
    }

    static void promise03FullTape() {
        GrottoHours x = new GrottoHours();
        Texts.feed(x, "bound 7;".repeat(1) + " ".repeat(684) + "wet 6; ;");
        Check.illegalArgument("port(701)", () -> x.port(701));
        Check.same("port(700)", 1, x.port(700));
        Check.same("its last byte can't stand there", 699, x.fault());
        Texts.feed(x, "bound 7;".repeat(1) + " ".repeat(684) + "wet 6; ;");
        Check.same("port(699)", 0, x.port(699));
        Check.same("wet", 6, x.count(3));
    }

    static void promise03TheFirstBytesAlone() {
        GrottoHours x = new GrottoHours();
        Texts.feed(x, "bound 77;bound 8; #");
        Check.same("port(9)", 0, x.port(9));
        Check.same("the bound", 77, x.count(4));
        Check.same("the rest of the tape is gone", 0, x.count(11));
        Check.illegalArgument("port(1)", () -> x.port(1));
        // The byte behind the last one is not looked at: 'bound 7' of 'bound 77;'.
        Texts.feed(x, "wet 1;bound 77;");
        Check.same("port(13) ends too soon", 1, x.port(13));
        Check.same("at its length", 13, x.fault());
        Texts.feed(x, "grotto 1 0 12345;");
        Check.same("port(15): 1234 is too much", 2, x.port(15));
        Texts.feed(x, "prays 12345;");
        Check.same("port(10): 1234 is not", 1, x.port(10));
        Check.same("at its length", 10, x.fault());
    }

    static void promise03OldBytesAreGone() {
        GrottoHours x = new GrottoHours();
        Check.same("a long text", 0, Texts.port(x, "bound 5;wet 6;grotto 1 2 3;"));
        Texts.feed(x, "bound 50;");
        Check.same("port(20) of a short one", 0, x.port(20));
        Check.same("the bound", 50, x.count(4));
        Check.same("no grottoes", 0, x.count(0));
    }

    static void promise03AllAnew() {
        GrottoHours x = usedTown();
        Check.same("port", 0, Texts.port(x, "grotto 1 0 1;guild 1 10 100 hires 0;"));
        int[] want = {1, 1, 0, 5, 70, 1, 0, 100, 10, 0, 0, 0, 0, 0, 0};
        for (int i = 0; i < want.length; i++) {
            int what = i;
            Check.same("count(" + i + ")", want[i], () -> x.count(what));
        }
        Check.same("silences", 0, x.guild(0, 3));
        Check.same("sin by no rule", 6, x.then(0, 1, 0));
        Check.same("cost by no rule", 1, x.guild(0, 5));
        Check.noSuchElement("grotto(1, 0)", () -> x.grotto(1, 0));
    }

    static void promise03ActsSeenAndImageAreGone() {
        GrottoHours x = usedTown();
        Check.same("the same town again", 0, Texts.port(x, TOWN));
        Check.same("acts", 0, x.count(9));
        Check.same("undo()", -1, x.undo());
        Check.same("seen", 0, x.count(10));
        Check.same("greedy(2)", 1, x.greedy(2));
        Check.isFalse("restore()", x.restore());
        Check.same("the hour", 0, x.count(2));
        Check.same("drained", 0, x.count(6));
    }

    static void promise03StatusStaysOverAPortWithoutAFault() {
        GrottoHours x = usedTown();
        x.hours(0);
        x.see(0, 0, 100);
        x.see(0, 0, 100);
        Texts.port(x, "#");
        Check.same("port", 0, Texts.port(x, TOWN));
        Check.same("STATUS 0", 1, x.count(12));
        Check.same("STATUS 1", 1, x.count(13));
        Check.same("STATUS 2", 2, x.count(14));
    }

    static void promise03AFaultLeavesAllButStatus() {
        GrottoHours x = usedTown();
        // Each line is a right one but for the last: nothing of it may be taken.
        String text = "grotto 9 9 9;hollow 8 8 8;guild 2 2 2 hires 1;wet 7 7;bound 77;prays 7;costs 7;#";
        int[] want = {2, 1, 3, 0, 9, 1, 2, 97, 7, 2, 1, 0, 1, 0, 0};
        Check.same("port", 1, Texts.port(x, text));
        Check.same("fault()", text.length() - 1, x.fault());
        for (int i = 0; i < want.length; i++) {
            int what = i;
            Check.same("count(" + i + ")", want[i], () -> x.count(what));
        }
        Check.same("its drip", 2, x.grotto(0, 0));
        Check.same("its greed", 1, x.guild(0, 0));
        // Hour 3 is dry, and hour 4 prays 3 away.
        Check.same("its rule prays", 7 + 1 - 3 + 1, x.then(0, 2, 0));
        Check.same("its rule costs", 4, x.guild(0, 5));
        Check.same("seen is there", 0, x.greedy(2));
    }

    static void promise03AFaultLeavesActsAndImage() {
        GrottoHours x = usedTown();
        Check.same("port", 2, Texts.port(x, "bound 0;"));
        Check.same("the acts are there", 1, x.undo());
        Check.same("flows again", 0, x.count(6));
        Check.same("the first one too", 0, x.undo());
        Check.same("the hour", 0, x.count(2));
        Check.isTrue("the image is there", x.restore());
        Check.same("the hour of the image", 3, x.count(2));
        Check.same("STATUS 0 is the image's", 0, x.count(12));
    }

    static void promise03EachFaultCountsOnce() {
        GrottoHours x = new GrottoHours();
        String[] texts = {"#", "bound 0;", "guild 1 1 1 hires 0;", "grotto 1 0 0;guild 1 1 1 hires 0;guild 1 1 1 hires 0;",
            "bound 1;bound 1;"};
        for (int i = 0; i < texts.length; i++) {
            Check.same("port of " + texts[i], i + 1, Texts.port(x, texts[i]));
            Check.same("STATUS 0", i + 1, x.count(12));
        }
        Check.same("STATUS 1", 0, x.count(13));
        Check.same("STATUS 2", 0, x.count(14));
    }

    static void promise03NothingOfAFaultyTextStays() {
        GrottoHours x = new GrottoHours();
        // A rule, a bound, wet, grottoes and guilds of a text with a FAULT aren't told to the next one.
        for (int i = 0; i < 3; i++) {
            Check.same("a fault", 1, Texts.port(x, "grotto 1 0 9;guild 1 50 100 hires 0;wet 2;bound 8;prays 2;costs 3;#"));
            Check.same("no fault", 0, Texts.port(x, "grotto 1 0 1;guild 1 10 100 hires 0;"));
            Check.same("grottoes", 1, x.count(0));
            Check.same("guilds", 1, x.count(1));
            Check.same("wet", 5, x.count(3));
            Check.same("bound", 70, x.count(4));
            Check.same("no rule prays", 6, x.then(0, 1, 0));
            Check.same("no rule costs", 1, x.guild(0, 5));
        }
    }

    static void promise03NothingOfAnEarlierTownStays() {
        GrottoHours x = new GrottoHours();
        for (int i = 0; i < 3; i++) {
            Texts.port(x, Edges.EIGHT_GROTTOES + "guild 9 99 999 hires 0;guild 9 99 999 hires 7;"
                + "wet 1 0;bound 1;prays 3;costs 4;");
            x.hours(20);
            x.drain(7, true);
            Check.same("port", 0, Texts.port(x, "grotto 1 0 1;guild 1 10 100;"));
            Check.same("grottoes", 1, x.count(0));
            Check.same("guilds", 1, x.count(1));
            Check.same("hired", 0, x.count(5));
            Check.same("drained", 0, x.count(6));
            Check.same("silences", 0, x.guild(0, 3));
            Check.same("the guild has none", -1, x.guild(0, 4));
            Check.noSuchElement("guild(1, 0)", () -> x.guild(1, 0));
        }
    }

    static void promise03TextOf700Bytes() {
        String text = Edges.EIGHT_GROTTOES + "guild 9 99 999 hires 7;" + "guild 0 0 0;".repeat(5)
            + "prays 1" + "+1".repeat(240);
        text = text + " ".repeat(691 - text.length()) + ";bound 9;";
        Check.same("its length", 700, text.length());
        GrottoHours x = Texts.town(text);
        Check.same("the bound", 9, x.count(4));
        // 241 are prayed away, kept to its sin.
        Check.same("its sin", 9, x.then(0, 1, 0));
    }
}
