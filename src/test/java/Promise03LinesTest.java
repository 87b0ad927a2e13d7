/** Promise 3, the LINES of a text: the bounds of what is told, how many, which TOKEN may stand where. */
public final class Promise03LinesTest {
    public static void main(String[] args) {
        Check.runAll(Promise03LinesTest.class);
    }

    private static final String[] SOME_TOKENS = {"grotto", "hollow", "guild", "hires", "wet", "bound", "prays", "costs",
        "or", "and", "not", "sin", "purse", "drip", "price", "hour", "greed", "word", "7", "0", "9999", "12345",
        ";", "(", ")", "+", "-", "*", "/", "<", "=", "#", "A", "\t"};

    /** Each TOKEN but those that can stand behind this is FAULT 1, at its first byte. */
    private static void othersCantStand(String behind, String... can) {
        for (String token : SOME_TOKENS) {
            if (!java.util.List.of(can).contains(token)) {
                Texts.fault(behind + token, 1, behind.length());
                Texts.fault(behind + " \n" + token + " ; 1", 1, behind.length() + 2);
            }
        }
    }

    private static final String[] NUMBERS = {"7", "0", "9999", "12345"};

    static void promise03WhatBeginsALine() {
        String[] can = {"grotto", "hollow", "guild", "wet", "bound", "prays", "costs"};
        othersCantStand("", can);
        othersCantStand("grotto 1 0 0;", can);
        othersCantStand("bound 7;\n", can);
    }

    static void promise03OnlyNumbersBehindGrotto() {
        for (String word : new String[] {"grotto ", "hollow "}) {
            othersCantStand(word, NUMBERS);
            othersCantStand(word + "1 ", NUMBERS);
            othersCantStand(word + "1 0 ", NUMBERS);
            othersCantStand(word + "1 0 0 ", ";");
        }
    }

    static void promise03OnlyNumbersBehindGuild() {
        othersCantStand("guild ", NUMBERS);
        othersCantStand("guild 1 ", NUMBERS);
        othersCantStand("guild 1 1 ", NUMBERS);
        othersCantStand("guild 1 1 1 ", ";", "hires");
        othersCantStand("grotto 1 0 0;guild 1 1 1 hires ", NUMBERS);
        othersCantStand("grotto 1 0 0;guild 1 1 1 hires 0 ", ";");
    }

    static void promise03OnlyNumbersBehindWetAndBound() {
        othersCantStand("wet ", NUMBERS);
        othersCantStand("wet 1 ", "7", "0", "9999", "12345", ";");
        othersCantStand("bound ", NUMBERS);
        othersCantStand("bound 1 ", ";");
    }

    static void promise03EndsTooSoonBehindEachToken() {
        String[] tokens = {"grotto", "1", "0", "0", ";", "hollow", "12", "11", "20", ";", "guild", "1", "2", "3", "hires",
            "0", ";", "wet", "1", "2", ";", "bound", "9", ";", "prays", "(", "not", "sin", "+", "1", "<", "2", ")", "and",
            "wet", "or", "hour", "-", "1", "*", "2", "/", "3", "=", "4", ";", "costs", "greed", ";"};
        StringBuilder text = new StringBuilder();
        for (String token : tokens) {
            text.append(token);
            boolean isWhole = token.equals(";");
            Texts.fault(text.toString(), isWhole ? 0 : 1, isWhole ? -1 : text.length());
            text.append(' ');
            Texts.fault(text.toString(), isWhole ? 0 : 1, isWhole ? -1 : text.length());
        }
    }

    private static void bounds(String ahead, int low, int high, String behind) {
        Texts.fault(ahead + low + behind, 0, -1);
        Texts.fault(ahead + high + behind, 0, -1);
        if (low > 0) {
            Texts.fault(ahead + (low - 1) + behind, 2, ahead.length());
        }
        Texts.fault(ahead + (high + 1) + behind, 2, ahead.length());
        Texts.fault(ahead + 9999 + behind, 2, ahead.length());
        Texts.fault(ahead + 10000 + behind, 2, ahead.length());
        Texts.fault(ahead + "-1" + behind, 1, ahead.length());
    }

    static void promise03DripIs1To12() {
        bounds("grotto ", 1, 12, " 0 0;");
        bounds("hollow ", 1, 12, " 0 0;");
    }

    static void promise03PhaseIs0To11() {
        bounds("grotto 1 ", 0, 11, " 0;");
        bounds("hollow 12 ", 0, 11, " 0;");
    }

    static void promise03PriceIs0To20() {
        bounds("grotto 1 0 ", 0, 20, ";");
        bounds("hollow 1 0 ", 0, 20, ";");
    }

    static void promise03GreedIs0To9() {
        bounds("guild ", 0, 9, " 0 0;");
    }

    static void promise03SinIs0To99() {
        bounds("guild 0 ", 0, 99, " 0;");
    }

    static void promise03PurseIs0To999() {
        bounds("guild 0 0 ", 0, 999, ";");
    }

    static void promise03WetIs0To9() {
        bounds("wet ", 0, 9, ";");
        bounds("wet 1 2 3 4 5 6 7 ", 0, 9, ";");
    }

    static void promise03TheBoundIs1To99() {
        bounds("bound ", 1, 99, ";");
    }

    static void promise03LeastAndMostAreTold() {
        GrottoHours x = Texts.town("grotto 1 0 0;hollow 12 11 20;guild 0 0 0;guild 9 99 999;wet 0 9;bound 99;");
        int[][] grottoes = {{1, 0, 0, 0}, {12, 11, 20, 1}};
        int[][] guilds = {{0, 0, 0}, {9, 99, 999}};
        for (int i = 0; i < 2; i++) {
            for (int what = 0; what < 4; what++) {
                Check.same("grotto(" + i + ", " + what + ")", grottoes[i][what], x.grotto(i, what));
            }
            for (int what = 0; what < 3; what++) {
                Check.same("guild(" + i + ", " + what + ")", guilds[i][what], x.guild(i, what));
            }
        }
        Check.same("wet", 0, x.count(3));
        Check.same("the bound", 99, x.count(4));
        x.hours(1);
        Check.same("wet of hour 1", 9, x.count(3));
        Check.same("the least bound", 1, Texts.town("bound 1;").count(4));
    }

    static void promise03EightGrottoesAreTakenNineAreNot() {
        Check.same("eight", 8, Texts.town(Edges.EIGHT_GROTTOES).count(0));
        Texts.fault(Edges.EIGHT_GROTTOES + "grotto 1 0 0;", 2, 104);
        Texts.fault(Edges.EIGHT_GROTTOES + "hollow 1 0 0;", 2, 104);
        Texts.fault("hollow 1 0 0;".repeat(8) + "grotto 1 0 0;", 2, 104);
        Texts.fault("grotto 1 0 0;hollow 1 0 0;".repeat(4), 0, -1);
        Texts.fault("grotto 1 0 0;hollow 1 0 0;".repeat(4) + "bound 1;  hollow 1 0 0;", 2, 114);
        // The TOKEN itself is the fault, whatever comes behind it.
        Texts.fault(Edges.EIGHT_GROTTOES + "grotto", 2, 104);
        Texts.fault(Edges.EIGHT_GROTTOES + "grotto # 13", 2, 104);
    }

    static void promise03SixGuildsAreTakenSevenAreNot() {
        Check.same("six", 6, Texts.town(Edges.SIX_GUILDS).count(1));
        Texts.fault(Edges.SIX_GUILDS + "guild 0 0 0;", 2, 72);
        Texts.fault(Edges.SIX_GUILDS + "wet 1;\nguild", 2, 79);
        Texts.fault(Edges.SIX_GUILDS + "guild 99 #", 2, 72);
        Texts.fault(Edges.EIGHT_GROTTOES + Edges.SIX_GUILDS, 0, -1);
    }

    static void promise03EightNumbersOfWetAreTakenNineAreNot() {
        Texts.fault("wet;", 1, 3);
        Texts.fault("wet 1;", 0, -1);
        Texts.fault("wet 0 1 2 3 4 5 6 9;", 0, -1);
        Texts.fault("wet 1 2 3 4 5 6 7 8 9;", 2, 20);
        Texts.fault("wet 1 2 3 4 5 6 7 8 10;", 2, 20);
        Texts.fault("wet 1 2 3 4 5 6 7 8 99999;", 2, 20);
        Texts.fault("wet 1 2 3 4 5 6 7 8 x;", 1, 20);
        Texts.fault("wet 1 2 3 4 5 6 7 8", 1, 19);
    }

    static void promise03AllEightNumbersOfWetAreTold() {
        GrottoHours x = Texts.town("wet 9 8 7 6 5 4 3 2;");
        for (int hour = 0; hour < 17; hour++) {
            Check.same("wet of hour " + hour, 9 - hour % 8, x.count(3));
            x.hours(1);
        }
    }

    static void promise03HiresWhatIsToldAhead() {
        Texts.fault("guild 1 1 1 hires 0;", 3, 18);
        Texts.fault("guild 1 1 1 hires 0;grotto 1 0 0;", 3, 18);
        Texts.fault("grotto 1 0 0;guild 1 1 1 hires 0;", 0, -1);
        Texts.fault("grotto 1 0 0;guild 1 1 1 hires 1;grotto 1 0 0;", 3, 31);
        Texts.fault(Edges.EIGHT_GROTTOES + "guild 1 1 1 hires 7;", 0, -1);
        Texts.fault(Edges.EIGHT_GROTTOES + "guild 1 1 1 hires 8;", 3, 122);
        Texts.fault(Edges.EIGHT_GROTTOES + "guild 1 1 1 hires 9999;", 3, 122);
        Texts.fault(Edges.EIGHT_GROTTOES + "guild 1 1 1 hires 10000;", 2, 122);
        Check.same("the last one", 7, Texts.town(Edges.EIGHT_GROTTOES + "guild 1 1 1 hires 7;").guild(0, 4));
    }

    static void promise03HiresWhatIsFree() {
        String one = "grotto 1 0 0;guild 1 1 1 hires 0;";
        Texts.fault(one + "guild 1 1 1 hires 0;", 4, 51);
        Texts.fault(one + "grotto 1 0 0;guild 1 1 1 hires 1;", 0, -1);
        Texts.fault(one + "grotto 1 0 0;guild 1 1 1 hires 1;guild 1 1 1 hires 1;", 4, 84);
        Texts.fault(one + "grotto 1 0 0;guild 1 1 1 hires 1;guild 1 1 1 hires 0;", 4, 84);
        Texts.fault(one + "guild 1 1 1;guild 1 1 1 hires 00;", 4, 63);
        Texts.fault(one + "guild 1 1 1 hires 1;", 3, 51);
    }

    static void promise03OnlyOneOfEach() {
        for (String line : new String[] {"wet 1;", "bound 1;", "prays 1;", "costs 1;"}) {
            Texts.fault(line, 0, -1);
            Texts.fault(line + line, 5, line.length());
            Texts.fault(line + "grotto 1 0 0; " + line, 5, line.length() + 14);
            // The TOKEN itself is the fault, whatever comes behind it.
            Texts.fault(line + line.substring(0, line.indexOf(' ')), 5, line.length());
            Texts.fault(line + line.substring(0, line.indexOf(' ')) + " #", 5, line.length());
        }
        Texts.fault("prays 1;costs 1;wet 1;bound 1;", 0, -1);
        // What tells 0 is told too.
        Texts.fault("wet 0;wet 0;", 5, 6);
        Texts.fault("prays 0;prays 0;", 5, 8);
        Texts.fault("costs 0;costs 0;", 5, 8);
    }

    static void promise03TheFirstFaultAlongTheText() {
        Texts.fault("grotto 13 12 21;#", 2, 7);
        Texts.fault("grotto 1 # 99;", 1, 9);
        Texts.fault("guild 1 1 1 hires 3;wet 1;wet 1;", 3, 18);
        Texts.fault("wet 1;wet 1;#", 5, 6);
        Texts.fault("prays 1;prays #;", 5, 8);
        Texts.fault("prays 12345 # ;", 2, 6);
        Texts.fault("prays word 12345;", 3, 6);
    }

    static void promise03OfOneTokenTheLeastFault() {
        // Five digits, and no GROTTO that is told ahead: 2, not 3.
        Texts.fault("guild 1 1 1 hires 12345;", 2, 18);
        // No NUMBER, where a GROTTO must stand: 1.
        Texts.fault("guild 1 1 1 hires word;", 1, 18);
        // The ninth number of WET that is too high, too: 2 either way; no number: 1.
        Texts.fault("wet 1 2 3 4 5 6 7 8 wet;", 1, 20);
    }
}
