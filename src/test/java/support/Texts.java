/** Puts texts on the tape of an object. */
final class Texts {
    private Texts() {
    }

    /** Feeds the text with blanks behind it, as each feed has twenty bytes. */
    static void feed(GrottoHours x, String text) {
        for (int at = 0; at < text.length(); at += 20) {
            int[] numbers = new int[5];
            for (int i = 0; i < 20; i++) {
                int sign = at + i < text.length() ? text.charAt(at + i) : ' ';
                numbers[i / 4] = numbers[i / 4] << 8 | sign;
            }
            x.feed(numbers[0], numbers[1], numbers[2], numbers[3], numbers[4]);
        }
    }

    static int port(GrottoHours x, String text) {
        feed(x, text);
        return x.port(text.length());
    }

    /** A new object with this text, which must have no fault. */
    static GrottoHours town(String text) {
        GrottoHours x = new GrottoHours();
        Check.same("port of " + text, 0, port(x, text));
        return x;
    }

    static void fault(String text, int kind, int place) {
        GrottoHours x = new GrottoHours();
        Check.same("port of " + text, kind, port(x, text));
        Check.same("fault() of " + text, place, x.fault());
        Check.same("count(12) of " + text, kind == 0 ? 0 : 1, x.count(12));
        Check.same("count(11) of " + text, 0, x.count(11));
    }
}
