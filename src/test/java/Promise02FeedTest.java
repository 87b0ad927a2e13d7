/** Promise 2, feed: twenty bytes a call, the highest of each number first, 700 at most. */
public final class Promise02FeedTest {
    public static void main(String[] args) {
        Check.runAll(Promise02FeedTest.class);
    }

    static void promise02TwentyBytesEach() {
        GrottoHours x = new GrottoHours();
        for (int i = 1; i <= 35; i++) {
            Check.same("feed " + i, 20 * i, x.feed(-1, 0, 1, Integer.MIN_VALUE, Integer.MAX_VALUE));
            Check.same("count(11)", 20 * i, x.count(11));
        }
    }

    static void promise02The700thByteIsTakenThe701stIsNot() {
        GrottoHours x = new GrottoHours();
        for (int i = 0; i < 34; i++) {
            x.feed(0x20202020, 0x20202020, 0x20202020, 0x20202020, 0x20202020);
        }
        Check.same("680 bytes", 680, x.count(11));
        Check.same("the last feed that is taken", 700, x.feed(1, 2, 3, 4, 5));
        Facts full = Facts.of(x);
        Check.same("the first feed that isn't", -1, x.feed(1, 2, 3, 4, 5));
        full.areSo("a feed too many", x);
        Check.same("another one", -1, x.feed(0, 0, 0, 0, 0));
        full.areSo("another feed too many", x);
    }

    static void promise02AFeedTooManyLeavesTheBytes() {
        GrottoHours x = new GrottoHours();
        // Blanks, and "bound 33;" as the last nine of 700 bytes.
        Texts.feed(x, " ".repeat(691) + "bound 33;");
        Check.same("700 bytes", 700, x.count(11));
        Check.same("one feed too many", -1, x.feed(0x23232323, 0x23232323, 0x23232323, 0x23232323, 0x23232323));
        Check.same("port(700)", 0, x.port(700));
        Check.same("the bound", 33, x.count(4));
    }

    static void promise02HighestByteFirst() {
        GrottoHours x = new GrottoHours();
        Check.same("feed", 20, x.feed('b' << 24 | 'o' << 16 | 'u' << 8 | 'n', 'd' << 24 | ' ' << 16 | '9' << 8 | '8',
            ';' << 24 | 'w' << 16 | 'e' << 8 | 't', ' ' << 24 | '7' << 16 | ' ' << 8 | '6', ';' << 24 | 0x202020));
        Check.same("port(20)", 0, x.port(20));
        Check.same("the bound", 98, x.count(4));
        Check.same("wet of hour 0", 7, x.count(3));
        x.hours(1);
        Check.same("wet of hour 1", 6, x.count(3));
    }

    static void promise02ComesBehindTheTape() {
        GrottoHours x = new GrottoHours();
        Texts.feed(x, "grotto 1 2 3;grotto ");
        Texts.feed(x, "4 5 6;grotto 7 8 9; ");
        Check.same("40 bytes", 40, x.count(11));
        Check.same("port(40)", 0, x.port(40));
        Check.same("three grottoes", 3, x.count(0));
        Check.same("its drip", 4, x.grotto(1, 0));
        Check.same("its price", 9, x.grotto(2, 2));
    }

    static void promise02BytesAbove127() {
        // 0xE9 at byte 6: no token, whatever its sign as a number is.
        GrottoHours x = new GrottoHours();
        x.feed(0x20202020, 0x2020E920, 0x20202020, 0x20202020, 0x20202020);
        Check.same("port(20)", 1, x.port(20));
        Check.same("fault()", 6, x.fault());
        x.feed(0xA0202020, 0x20202020, 0x20202020, 0x20202020, 0x20202020);
        Check.same("160 is no blank", 1, x.port(20));
        Check.same("fault()", 0, x.fault());
        x.feed(0x20202020, 0x20202020, 0x20202020, 0x20202020, 0x202020FF);
        Check.same("the lowest byte of the last number", 1, x.port(20));
        Check.same("fault()", 19, x.fault());
    }

    static void promise02AnEmptiedTapeTakes700Again() {
        GrottoHours x = new GrottoHours();
        Texts.feed(x, " ".repeat(700));
        Check.same("port(0)", 0, x.port(0));
        Check.same("the tape is empty", 0, x.count(11));
        for (int i = 1; i <= 35; i++) {
            Check.same("feed " + i, 20 * i, x.feed(0, 0, 0, 0, 0));
        }
        Check.same("feed 36", -1, x.feed(0, 0, 0, 0, 0));
        Check.same("port of a fault", 1, x.port(700));
        Check.same("feed again", 20, x.feed(0, 0, 0, 0, 0));
    }

    static void promise02ChangesTheTapeAlone() {
        GrottoHours x = Texts.town("grotto 1 0 0;guild 1 50 100 hires 0;");
        x.hours(2);
        x.see(0, 1, 1);
        int[] want = {1, 1, 2, 5, 70, 1, 0, 106, 42, 1, 1, 20, 0, 0, 0};
        Check.same("feed", 20, x.feed(0, 0, 0, 0, 0));
        for (int i = 0; i < want.length; i++) {
            int what = i;
            Check.same("count(" + i + ")", want[i], () -> x.count(what));
        }
        Check.same("fault()", -1, x.fault());
    }
}
