import java.lang.management.ManagementFactory;

/** A run's calls make next to nothing: all rows are made with the object. */
public final class RoomTest {
    private static final int CALLS = 448;
    private static final long MOST_BYTES_OF_AN_OBJECT = 80_000;
    private static final long MOST_BYTES_OF_CALLS = 20_000;

    public static void main(String[] args) {
        String text = "wet 1 2 0 3;" + "grotto 7 3 5;".repeat(4) + "hollow 5 1 9;".repeat(4)
            + "guild 4 50 700 hires 3;" + "guild 3 20 90;".repeat(5) + "prays sin/4+wet;costs purse/20+greed;";
        used(text);
        long[] bytes = used(text);
        System.out.println("an object: " + bytes[0] + " bytes, its calls: " + bytes[1] + " bytes");
        Check.isTrue("an object's room", bytes[0] <= MOST_BYTES_OF_AN_OBJECT);
        Check.isTrue("its calls' room", bytes[1] <= MOST_BYTES_OF_CALLS);
        Check.end();
    }

    private static long allocated() {
        return ((com.sun.management.ThreadMXBean) ManagementFactory.getThreadMXBean())
            .getThreadAllocatedBytes(Thread.currentThread().getId());
    }

    private static long[] used(String text) {
        long start = allocated();
        GrottoHours x = new GrottoHours();
        long made = allocated();
        Texts.port(x, text);
        long ported = allocated();
        for (int i = 0; i < CALLS; i++) {
            call(x, i);
        }
        return new long[] {made - start, allocated() - ported};
    }

    private static int call(GrottoHours x, int i) {
        int guild = i % 6;
        int hours = 1 + i % 60;
        switch (i % 32) {
            case 0: return x.hours(1 + i % 3);
            case 1: return x.feed(i, i, i, i, i);
            case 2: return x.hire(guild, i % 8) ? 1 : 0;
            case 3: return x.dismiss(guild);
            case 4: return x.confess(guild);
            case 5: return x.drain(i % 8, i % 5 < 3) ? 1 : 0;
            case 6: return x.give(guild, 9);
            case 7: return x.undo();
            case 8: return x.then(guild, hours, 0);
            case 9: return x.dripping(hours);
            case 10: return x.first(guild);
            case 11: return x.dismissed(guild);
            case 12: return x.most(hours, 1);
            case 13: return x.hush(hours);
            case 14: return x.chorus(hours);
            case 15: return x.together(i % 256);
            case 16: return x.rhythm(i % 256);
            case 17: return x.often(i % 8, hours);
            case 18: return x.toHire(guild, hours, 0);
            case 19: return x.shared(0);
            case 20: return x.has(guild);
            case 21: return x.toGive(guild, hours);
            case 22: return x.confessing(guild, hours);
            case 23: return x.see(guild, i % 20, x.then(guild, i % 20, 0));
            case 24: return x.greedy(0);
            case 25: return x.look(1);
            case 26: return x.drought(guild, 5, 4);
            case 27: return x.game(guild, (guild + 1) % 6, 0);
            case 28: return x.years(i, 60, 0);
            case 29:
                x.image();
                return 0;
            case 30: return x.restore() ? 1 : 0;
            default: return x.count(i % 15);
        }
    }
}
