/** Promise 3, the TOKENS of a text: bytes, blanks, words, NUMBERS, signs. */
public final class Promise03TokensTest {
    public static void main(String[] args) {
        Check.runAll(Promise03TokensTest.class);
    }

    private static String sign(int number) {
        return String.valueOf((char) number);
    }

    static void promise03OnlyTwoBytesAreBlanks() {
        for (int i = 0; i < 256; i++) {
            boolean isBlank = i == 32 || i == 10;
            GrottoHours x = new GrottoHours();
            Check.same("port of byte " + i, isBlank ? 0 : 1, Texts.port(x, sign(i)));
            Check.same("fault() of byte " + i, isBlank ? -1 : 0, x.fault());
        }
    }

    static void promise03BytesBetweenTokens() {
        for (int i = 0; i < 256; i++) {
            String text = "bound 7" + sign(i) + ";";
            if (i == 32 || i == 10) {
                Texts.fault(text, 0, -1);
            } else if (i == ';') {
                Texts.fault(text, 1, 8);
            } else if (i < '0' || i > '9') {
                Texts.fault(text, 1, 7);
            }
        }
    }

    static void promise03BytesBehindAPart() {
        for (int i = 0; i < 256; i++) {
            boolean joins = "+-*/<=".indexOf(i) >= 0;
            boolean isNumber = i >= '0' && i <= '9';
            boolean isBlank = i == 32 || i == 10;
            if (!isNumber) {
                // 'prays 1' and the byte and '1;': joined by a sign, or two NUMBERS, or what can't stand there.
                Texts.fault("prays 1" + sign(i) + "1;", joins ? 0 : 1, joins ? -1 : isBlank ? 8 : i == ';' ? 8 : 7);
            }
        }
    }

    static void promise03BytesWhereAPartMustStand() {
        for (int i = 0; i < 256; i++) {
            boolean isNumber = i >= '0' && i <= '9';
            boolean isWord = i >= 'a' && i <= 'z';
            boolean isBlank = i == 32 || i == 10;
            String text = "prays " + sign(i) + ";";
            if (i == '(') {
                Texts.fault(text, 1, 7);
            } else {
                Texts.fault(text, isNumber ? 0 : isWord ? 3 : 1, isNumber ? -1 : isBlank ? 7 : 6);
            }
        }
    }

    static void promise03BlanksCountForNothing() {
        Texts.fault("", 0, -1);
        Texts.fault(" \n\n  ", 0, -1);
        Texts.fault("\n grotto\n1  0\n\n0 ; \n", 0, -1);
        Texts.fault("prays\n(\n1\n+\n2\n)\n<\nsin\n;", 0, -1);
        Texts.fault("prays(1+2)<sin;", 0, -1);
    }

    static void promise03BlanksPartTokens() {
        Texts.fault("gro tto 1 0 0;", 1, 0);
        Texts.fault("grotto 1 2 3 4;", 1, 13);
        Texts.fault("grotto 1 1;", 1, 10);
        Texts.fault("prays si n;", 3, 6);
        Texts.fault("prays 1 2;", 1, 8);
    }

    static void promise03WordsAndNumbersNeedNoBlankBetween() {
        Texts.fault("grotto12 11 20;hollow1 0 0;", 0, -1);
        Texts.fault("grotto 1 0 0;guild 1 1 1hires0;", 0, -1);
        Texts.fault("prays 1or 2and 3;", 0, -1);
        Texts.fault("prays not1;", 0, -1);
        Texts.fault("prays 1and not(2)or 3;", 0, -1);
        Texts.fault("bound7;wet1;", 0, -1);
    }

    static void promise03AWordIsTheLongestRow() {
        Texts.fault("grottoo 1 0 0;", 1, 0);
        Texts.fault("grott 1 0 0;", 1, 0);
        Texts.fault("prays notsin;", 3, 6);
        Texts.fault("prays sinor 1;", 3, 6);
        Texts.fault("prays sins;", 3, 6);
        Texts.fault("prays si;", 3, 6);
        Texts.fault("prays 1 orr 2;", 1, 8);
        Texts.fault("prays 1 o 2;", 1, 8);
        Texts.fault("prays 1 andnot 2;", 1, 8);
        Texts.fault("guild 1 1 1 hire 0;", 1, 12);
        Texts.fault("guild 1 1 1 hiress 0;", 1, 12);
        // One of 690 bytes is one word still.
        Texts.fault("a".repeat(690), 1, 0);
        Texts.fault("prays " + "a".repeat(690) + ";", 3, 6);
    }

    /** The word with one letter changed is another word. */
    private static void letterByLetter(String word, String ahead, String behind, int kind) {
        for (int i = 0; i < word.length(); i++) {
            char other = word.charAt(i) == 'z' ? 'a' : (char) (word.charAt(i) + 1);
            String text = ahead + word.substring(0, i) + other + word.substring(i + 1) + behind;
            Texts.fault(text, kind, ahead.length());
        }
        Texts.fault(ahead + word + behind, 0, -1);
    }

    static void promise03EachLetterOfAWordCounts() {
        letterByLetter("grotto", "", " 1 0 0;", 1);
        letterByLetter("hollow", "", " 1 0 0;", 1);
        letterByLetter("guild", "", " 1 0 0;", 1);
        letterByLetter("wet", "", " 1;", 1);
        letterByLetter("bound", "", " 1;", 1);
        letterByLetter("prays", "", " 1;", 1);
        letterByLetter("costs", "", " 1;", 1);
        letterByLetter("hires", "grotto 1 0 0;guild 1 1 1 ", " 0;", 1);
        letterByLetter("or", "prays 1 ", " 1;", 1);
        letterByLetter("and", "prays 1 ", " 1;", 1);
        letterByLetter("not", "prays ", " 1;", 3);
        for (String value : new String[] {"sin", "purse", "drip", "price", "wet", "hour", "greed"}) {
            letterByLetter(value, "costs 1+", ";", 3);
        }
    }

    static void promise03CapitalsAreNone() {
        Texts.fault("Grotto 1 0 0;", 1, 0);
        Texts.fault("gRotto 1 0 0;", 1, 0);
        Texts.fault("prays Sin;", 1, 6);
        Texts.fault("prays sIn;", 3, 6);
        Texts.fault("prays 1 AND 1;", 1, 8);
    }

    static void promise03FourDigitsAreTakenFiveAreNot() {
        Texts.fault("prays 9999;", 0, -1);
        Texts.fault("prays 10000;", 2, 6);
        Texts.fault("prays 0000;", 0, -1);
        Texts.fault("prays 00000;", 2, 6);
        Texts.fault("prays 00001;", 2, 6);
        Texts.fault("grotto 0001 0011 0020;", 0, -1);
        Texts.fault("grotto 00001 0 0;", 2, 7);
        Texts.fault("bound 0099;", 0, -1);
        Texts.fault("bound 00099;", 2, 6);
        Texts.fault("wet 0009 0000;", 0, -1);
        Texts.fault("wet 00009;", 2, 4);
        Texts.fault("grotto 1 0 0;guild 1 1 1 hires 0000;", 0, -1);
        Texts.fault("grotto 1 0 0;guild 1 1 1 hires 00000;", 2, 31);
    }

    static void promise03NumbersThatWouldWrap() {
        // 4294967297 would be 1 as an int that wraps, 18446744073709551617 as a long.
        Texts.fault("bound 4294967297;", 2, 6);
        Texts.fault("bound 18446744073709551617;", 2, 6);
        Texts.fault("grotto 4294967297 0 0;", 2, 7);
        Texts.fault("prays 4294967297;", 2, 6);
        Texts.fault("prays " + "9".repeat(690) + ";", 2, 6);
        Texts.fault("bound " + "0".repeat(690) + "1;", 2, 6);
    }

    static void promise03ANumberOfFiveDigitsWhereNoneCanStand() {
        Texts.fault("12345", 1, 0);
        Texts.fault("grotto 1 0 0 12345;", 1, 13);
        Texts.fault("bound 1 12345;", 1, 8);
        Texts.fault("guild 1 1 1 12345;", 1, 12);
        Texts.fault("prays 1 12345;", 1, 8);
        Texts.fault("prays (1) 12345;", 1, 10);
    }
}
