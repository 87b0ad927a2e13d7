/** Numbers just outside of what is taken, and towns at the ends of what there is. */
final class Edges {
    private Edges() {
    }

    /** The nearest ones on both sides, the farthest ones, and two that would be inside, were they cut to 16 bits. */
    static int[] outside(int low, int high) {
        return new int[] {low - 1, high + 1, Integer.MIN_VALUE, Integer.MAX_VALUE, low - 65536, high + 65536};
    }

    /** A town in this HOUR, by at most 51 calls. */
    static GrottoHours townInHour(int hour, String text) {
        GrottoHours x = Texts.town(text);
        for (int at = 0; at < hour; at += 20) {
            x.hours(Math.min(20, hour - at));
        }
        Check.same("the hour", hour, x.count(2));
        return x;
    }

    static final String EIGHT_GROTTOES = "grotto 1 0 0;".repeat(8);
    static final String SIX_GUILDS = "guild 0 0 0;".repeat(6);
}
