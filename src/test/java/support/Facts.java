import java.util.ArrayList;
import java.util.List;

/** All that an object tells of what is so now, so that a test can say what a call leaves as it was. */
final class Facts {
    private static final int STATUS = 12;
    private static final int COUNTS = 15;
    private final List<Long> numbers = new ArrayList<>();
    private final List<String> names = new ArrayList<>();

    private Facts() {
    }

    /** These are 18 calls, 7 more for each GROTTO, and 6 for each GUILD: an object has 512 in all. */
    static Facts of(GrottoHours x) {
        Facts facts = new Facts();
        for (int what = 0; what < COUNTS; what++) {
            facts.add("count(" + what + ")", x.count(what));
        }
        facts.add("fault()", x.fault());
        int grottoes = x.count(0);
        for (int grotto = 0; grotto < grottoes; grotto++) {
            for (int what = 0; what < 7; what++) {
                facts.add("grotto(" + grotto + ", " + what + ")", x.grotto(grotto, what));
            }
        }
        int guilds = x.count(1);
        for (int guild = 0; guild < guilds; guild++) {
            for (int what = 0; what < 6; what++) {
                facts.add("guild(" + guild + ", " + what + ")", x.guild(guild, what));
            }
        }
        return facts;
    }

    /** The same, but for one refusal more. */
    Facts refusedOnce(int kind) {
        Facts facts = new Facts();
        facts.names.addAll(names);
        facts.numbers.addAll(numbers);
        facts.numbers.set(STATUS + kind, numbers.get(STATUS + kind) + 1);
        return facts;
    }

    void areSo(String when, GrottoHours x) {
        Facts now = of(x);
        Check.same(when + ": how many facts", numbers.size(), now.numbers.size());
        for (int i = 0; i < numbers.size() && i < now.numbers.size(); i++) {
            Check.same(when + ": " + names.get(i), numbers.get(i), now.numbers.get(i));
        }
    }

    /** The call answers this, and all stays but one number of STATUS (0 texts, 1 acts, 2 what is seen). */
    static void refused(GrottoHours x, int kind, String what, long want, Check.Call call) {
        Facts before = of(x);
        Check.same(what, want, call);
        before.refusedOnce(kind).areSo(what + " is refused", x);
    }

    /** The call throws NoSuchElementException, and all stays, STATUS too. */
    static void noSuchElement(GrottoHours x, String what, Check.Call call) {
        Facts before = of(x);
        Check.noSuchElement(what, call);
        before.areSo(what + " throws", x);
    }

    /** The call throws IllegalArgumentException, and all stays, STATUS too. */
    static void illegalArgument(GrottoHours x, String what, Check.Call call) {
        Facts before = of(x);
        Check.illegalArgument(what, call);
        before.areSo(what + " throws", x);
    }

    private void add(String name, long number) {
        names.add(name);
        numbers.add(number);
    }
}
