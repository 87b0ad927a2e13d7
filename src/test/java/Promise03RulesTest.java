/** Promise 3, the EXPRS of a text: which TOKEN may stand where, how deep, how many, and what they give. */
public final class Promise03RulesTest {
    public static void main(String[] args) {
        Check.runAll(Promise03RulesTest.class);
    }

    private static final String[] SIGNS = {";", ")", "+", "-", "*", "/", "<", "=", "#", "A", "\t"};
    private static final String[] STRANGE_WORDS = {"or", "and", "grotto", "hollow", "guild", "hires", "bound", "prays",
        "costs", "word", "a", "z", "sinn", "wett"};

    static void promise03WhereAPartMustStand() {
        for (String rule : new String[] {"prays ", "costs "}) {
            for (String ahead : new String[] {"", "(", "((((( ", "1 or ", "1 and ", "not ", "1<", "1=", "1+", "1-", "1*",
                "1/", "(1)*"}) {
                for (String sign : SIGNS) {
                    Texts.fault(rule + ahead + sign, 1, rule.length() + ahead.length());
                }
                for (String word : STRANGE_WORDS) {
                    Texts.fault(rule + ahead + word + "#", 3, rule.length() + ahead.length());
                }
                Texts.fault(rule + ahead, 1, rule.length() + ahead.length());
            }
        }
    }

    static void promise03NotStandsAheadOfATestAlone() {
        Texts.fault("prays not 1;", 0, -1);
        Texts.fault("prays 1 and not 1 or not 1;", 0, -1);
        Texts.fault("prays (not 1)+1;", 0, -1);
        Texts.fault("prays 1+not 1;", 3, 8);
        Texts.fault("prays 1-not 1;", 3, 8);
        Texts.fault("prays 1*not 1;", 3, 8);
        Texts.fault("prays 1/not 1;", 3, 8);
        Texts.fault("prays 1<not 1;", 3, 8);
        Texts.fault("prays 1=not 1;", 3, 8);
    }

    static void promise03BehindAPart() {
        String[] all = {"grotto", "hires", "wet", "bound", "prays", "not", "sin", "greed", "word", "7", "12345", "(",
            "#", "A"};
        for (String ahead : new String[] {"prays 1 ", "costs sin ", "prays (1) ", "prays 1+2 ", "prays 1*2 ", "prays not 1 ",
            "prays 1<2 ", "prays 1 and 2 ", "prays 1 or 2 "}) {
            for (String token : all) {
                Texts.fault(ahead + token, 1, ahead.length());
            }
            Texts.fault(ahead + ")", 1, ahead.length());
            Texts.fault(ahead + ";", 0, -1);
        }
        Texts.fault("prays (1;", 1, 8);
        Texts.fault("prays (1", 1, 8);
        Texts.fault("prays (1 1);", 1, 9);
    }

    static void promise03OneTestOfASum() {
        for (String test : new String[] {"1<2", "1=2", "1+1<2*2", "not 1<2"}) {
            String text = "prays " + test;
            Texts.fault(text + "<3;", 1, text.length());
            Texts.fault(text + "=3;", 1, text.length());
            Texts.fault(text + " and 1<3;", 0, -1);
            Texts.fault("prays (" + test + ")<3;", 0, -1);
        }
    }

    static void promise03SixNotsAreTakenSevenAreNot() {
        Texts.fault("prays " + "not ".repeat(6) + "1;", 0, -1);
        Texts.fault("prays " + "not ".repeat(7) + "1;", 2, 30);
        Texts.fault("prays " + "not ".repeat(60) + "1;", 2, 30);
        Texts.fault("prays " + "not ".repeat(7), 2, 30);
        Texts.fault("prays " + "not ".repeat(6), 1, 30);
        Texts.fault("prays " + "not ".repeat(6) + "nots;", 3, 30);
        Texts.fault("prays 1 or " + "not ".repeat(7) + "1;", 2, 35);
        Texts.fault("prays 1 and " + "not ".repeat(7) + "1;", 2, 36);
        Texts.fault("costs (" + "not ".repeat(7) + "1);", 2, 31);
    }

    static void promise03NotsOnlySideBySide() {
        Texts.fault("prays " + "not ".repeat(6) + "(" + "not ".repeat(6) + "1);", 0, -1);
        Texts.fault("prays " + "not ".repeat(6) + "(" + "not ".repeat(7) + "1);", 2, 55);
        Texts.fault("prays " + "not ".repeat(6) + "1 and " + "not ".repeat(6) + "1 or " + "not ".repeat(6) + "1;", 0, -1);
    }

    static void promise03AnExprWithinFiveOthersIsTakenWithinSixIsNot() {
        Texts.fault("prays (((((1)))));", 0, -1);
        Texts.fault("prays ((((((1))))));", 2, 12);
        Texts.fault("costs 1+(1+(1+(1+(1+(1)))));", 0, -1);
        Texts.fault("costs 1+(1+(1+(1+(1+(1+(1))))));", 2, 24);
        Texts.fault("prays 1 or (1 and (not (1<(1*(1)))));", 0, -1);
        Texts.fault("prays 1 or (1 and (not (1<(1*(1+(1))))));", 2, 33);
    }

    static void promise03TheFirstTokenWithinSixOthers() {
        for (String token : new String[] {"1", "12345", "sin", "word", "greed", "not", "or", "grotto", "("}) {
            Texts.fault("prays ((((((" + token, 2, 12);
            Texts.fault("prays (((((( " + token + " # ", 2, 13);
            Texts.fault("costs 1<((((((" + token, 2, 14);
        }
        for (String token : new String[] {")", ";", "+", "-", "*", "/", "<", "=", "#", "A"}) {
            Texts.fault("prays ((((((" + token, 1, 12);
        }
        Texts.fault("prays ((((((", 1, 12);
        Texts.fault("prays (((((((((((((((1", 2, 12);
    }

    static void promise03ExprsSideBySideAreNotWithinOthers() {
        Texts.fault("prays (1)+(1)+(1)+(1)+(1)+(1)+(1)+(1)+(1);", 0, -1);
        Texts.fault("prays (((((1)))))+(((((1)))))+(((((1)))));", 0, -1);
        Texts.fault("prays (((((1)))))+((((((1))))));", 2, 24);
    }

    static void promise03GreedIsAValueOfCostsAlone() {
        Texts.fault("costs greed;", 0, -1);
        Texts.fault("prays greed;", 3, 6);
        Texts.fault("costs 1;prays 1+greed;", 3, 16);
        Texts.fault("prays 1;costs 1+greed;", 0, -1);
        for (String value : new String[] {"sin", "purse", "drip", "price", "wet", "hour"}) {
            Texts.fault("prays " + value + ";costs " + value + ";", 0, -1);
        }
    }

    /** What COSTS gives, kept to 0 to 50: HOUR 0, WET 7, DRIP 3, PRICE 4, GREED 5, SIN 60, PURSE 700. */
    private static void gives(String expr, int want) {
        GrottoHours x = Texts.town("wet 7;grotto 3 0 4;guild 5 60 700 hires 0;bound 99;costs " + expr + ";");
        Check.same("costs " + expr, want, x.guild(0, 5));
    }

    static void promise03Values() {
        gives("sin-20", 40);
        gives("purse/100", 7);
        gives("drip", 3);
        gives("price", 4);
        gives("wet", 7);
        gives("hour", 0);
        gives("hour+2", 2);
        gives("greed", 5);
    }

    static void promise03ValuesOfTheGrottoItHas() {
        // The last of eight, and the second, whatever GREED and SILENCES are.
        String eight = "grotto 1 0 1;grotto 2 0 2;grotto 3 0 3;grotto 4 0 4;grotto 5 0 5;"
            + "grotto 6 0 6;grotto 7 0 7;grotto 12 0 20;";
        for (String rule : new String[] {"drip", "price"}) {
            GrottoHours x = Texts.town(eight + "guild 9 99 999 hires 7;guild 9 99 999 hires 1;costs " + rule + ";prays 0;");
            Check.same(rule + " of the last", rule.equals("drip") ? 12 : 20, x.guild(0, 5));
            Check.same(rule + " of the second", 2, x.guild(1, 5));
            x.hours(12);
            Check.same("twelve silences", 12, x.guild(0, 3));
            Check.same(rule + " of the last", rule.equals("drip") ? 12 : 20, x.guild(0, 5));
            Check.same(rule + " of the second", 2, x.guild(1, 5));
            GrottoHours y = Texts.town(eight + "guild 0 90 0 hires 7;guild 0 90 0 hires 1;costs 0;prays " + rule + ";");
            Check.same(rule + " of the last", rule.equals("drip") ? 78 : 70, y.then(0, 1, 0));
            Check.same(rule + " of the second", 88, y.then(1, 1, 0));
        }
    }

    static void promise03FromTheLeft() {
        gives("20-3-4", 13);
        gives("20-3+4", 21);
        gives("40/3/2", 6);
        gives("10/3*3", 9);
        gives("3*10/4", 7);
        gives("2+3*4", 14);
        gives("20-4/2", 18);
        gives("(2+3)*4", 20);
        gives("40/(3+2)", 8);
        gives("20-(3-4)", 21);
    }

    static void promise03DivisionCutsDownToZero() {
        gives("7/2", 3);
        gives("1/2", 0);
        gives("(0-7)/2+10", 7);
        gives("7/(0-2)+10", 7);
        gives("(0-7)/(0-2)", 3);
        gives("(0-1)/2+10", 10);
    }

    static void promise03DivisionByZeroGivesZero() {
        gives("7/0", 0);
        gives("7/0+3", 3);
        gives("0/0+3", 3);
        gives("(0-7)/hour+3", 3);
        gives("7/(1-1)*5+2", 2);
        gives("9/0/0+1", 1);
    }

    static void promise03NumbersThatGoRound() {
        // 9999 * 9999 * 43 goes round: 4299140043 less 4294967296 is 4172747.
        gives("(9999*9999*43=9999*417+3164)*7", 7);
        gives("9999*9999*22<0", 1);
        // 2147483647 is the most: one more is the least.
        gives("(8192*8192*32-1)/8192/8192", 31);
        gives("0<8192*8192*32-1", 1);
        gives("8192*8192*32<0", 1);
        gives("8192*8192*32-1+1<0", 1);
        gives("0<0-8192*8192*32-1", 1);
        gives("0-8192*8192*32<0", 1);
        gives("(8192*8192*64=0)*9", 9);
        // The least by -1 goes round to itself.
        gives("8192*8192*32/(0-1)<0", 1);
        gives("(8192*8192*32/(0-1)=8192*8192*32)*6", 6);
    }

    static void promise03TestsAreOneOrZero() {
        gives("2<3", 1);
        gives("3<3", 0);
        gives("4<3", 0);
        gives("0-1<0", 1);
        gives("3=3", 1);
        gives("3=4", 0);
        gives("(2<3)+(3=3)+5", 7);
        gives("(3<3)+5", 5);
        gives("(4<3)+5", 5);
        gives("(3=4)+5", 5);
        gives("1+1<3", 1);
        gives("2<1+1", 0);
        gives("2*3=3+3", 1);
    }

    static void promise03WhatIsntZeroHolds() {
        gives("not 7", 0);
        gives("not 0", 1);
        gives("not(0-1)", 0);
        gives("7 and 8", 1);
        gives("7 and 0", 0);
        gives("0 and 7", 0);
        gives("0 and 0", 0);
        gives("1 and 2", 1);
        gives("(0-1)and(0-2)", 1);
        gives("7 or 0", 1);
        gives("0 or 9", 1);
        gives("0 or 0", 0);
        gives("(0-1)or 0", 1);
        gives("(0 or 0)+5", 5);
        gives("(0 and 1)+5", 5);
        gives("(1 and 0)+5", 5);
        gives("(0 and 0)+5", 5);
        gives("(not 1)+5", 5);
        gives("(7 and 8)*9", 9);
        gives("(3 or 4)*9", 9);
    }

    static void promise03WhichBindsMore() {
        gives("1 or 1 and 0", 1);
        gives("(1 or 1)and 0", 0);
        gives("0 and 1 or 1", 1);
        gives("0 and(1 or 1)", 0);
        gives("not 0 and 0", 0);
        gives("not(0 and 0)", 1);
        gives("not 1 or 1", 1);
        gives("not 1<0", 1);
        gives("not 1=1", 0);
        gives("not 0+5", 0);
        gives("(not 0)+5", 6);
        gives("1<2 and 3=3 or 0", 1);
    }

    static void promise03Nots() {
        for (int many = 0; many <= 6; many++) {
            gives("not ".repeat(many) + "7", many == 0 ? 7 : 1 - many % 2);
            gives("not ".repeat(many) + "0", many % 2);
        }
    }

    static void promise03DeepestExpr() {
        gives("1+(2*(3+(4*(5+(6+1)))))", 50);
        gives("1+(1+(1+(1+(1+(1 or 0)))))", 6);
        gives("40-(20-(10-(5-(3-(2-1)))))", 27);
        // Each of the six EXPRS holds back a number for or, and, a test, a sum and a product.
        String inner = "0 or 1 and 0<1+1*";
        gives(inner + "(" + inner + "(" + inner + "(" + inner + "(" + inner + "(" + inner + "1)))))", 1);
    }

    static void promise03LongRules() {
        gives("0" + "+1".repeat(49), 49);
        gives("0" + "+1".repeat(280) + "-270", 10);
        gives("1" + "*1".repeat(290) + "*8", 8);
        gives("0" + " or 0".repeat(100) + " or 1", 1);
        gives("1" + " and 1".repeat(90) + " and 0", 0);
        gives("(1)" + "+(1)".repeat(40), 41);
    }

    static void promise03RulesOfOneTownAreTwo() {
        GrottoHours x = Texts.town("grotto 1 0 9;guild 1 50 100 hires 0;prays 11;costs 7;");
        x.hours(1);
        Check.same("sin", 40, x.guild(0, 1));
        Check.same("purse", 96, x.guild(0, 2));
        GrottoHours y = Texts.town("grotto 1 0 9;guild 1 50 100 hires 0;costs 7;");
        y.hours(1);
        Check.same("sin, without PRAYS", 46, y.guild(0, 1));
        Check.same("purse", 96, y.guild(0, 2));
        GrottoHours z = Texts.town("grotto 1 0 9;guild 1 50 100 hires 0;prays 11;");
        z.hours(1);
        Check.same("sin", 40, z.guild(0, 1));
        Check.same("purse, without COSTS", 94, z.guild(0, 2));
    }
}
