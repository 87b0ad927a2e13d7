import java.util.NoSuchElementException;

/** Grottoes that drip, and guilds that hire them to pray: what ../shared/DOC.md promises. */
public final class GrottoHours {
    public static final int NONE = -1;

    private static final int MOST_BYTES = 700;
    private static final int BYTES_OF_A_FEED = 20;
    private static final int MOST_GROTTOES = 8;
    private static final int MOST_GUILDS = 6;
    private static final int MOST_WETS = 8;
    private static final int MOST_DRIP = 12;
    private static final int MOST_PHASE = 11;
    private static final int MOST_PRICE = 20;
    private static final int MOST_GREED = 9;
    private static final int MOST_SIN = 99;
    private static final int MOST_PURSE = 999;
    private static final int MOST_SILENCES = 999;
    private static final int MOST_WET = 9;
    private static final int MOST_BOUND = 99;
    private static final int MOST_COST = 50;
    private static final int MOST_HOUR = 999;
    private static final int MOST_ACTS = 40;
    private static final int MOST_SEEN = 8;
    private static final int MOST_HOURS_OF_AN_ACT = 20;
    private static final int MOST_HOURS_AHEAD = 60;
    private static final int MOST_HOURS_SEEN = 20;
    private static final int MOST_HOURS_OF_DROUGHT = 5;
    private static final int MOST_GIFT = 100;
    private static final int HOURS_OF_A_GAME = 8;

    private static final int WET_UNTOLD = 5;
    private static final int BOUND_UNTOLD = 70;
    private static final int PRAYER_UNTOLD = 5;
    private static final int CONFESSION = 50;

    private static final int FAULT_CANT_STAND = 1;
    private static final int FAULT_TOO_MUCH = 2;
    private static final int FAULT_UNKNOWN = 3;
    private static final int FAULT_HIRED = 4;
    private static final int FAULT_TWICE = 5;

    private static final int REFUSED_TEXTS = 0;
    private static final int REFUSED_ACTS = 1;
    private static final int REFUSED_SEEN = 2;
    private static final int KINDS_OF_REFUSAL = 3;

    private static final int TOKEN_END = 0;
    private static final int TOKEN_WORD = 1;
    private static final int TOKEN_NUMBER = 2;
    private static final int TOKEN_SIGN = 3;
    private static final int TOKEN_STRANGE = 4;
    private static final int TOKEN_BLANK = 5;
    private static final int MOST_DIGITS = 4;

    // A rule's codes: a number stands for itself, a VALUE and an operator for what lies above all numbers.
    private static final int MOST_NUMBER = 9999;
    private static final int VALUE_SIN = 10000;
    private static final int VALUE_PURSE = 10001;
    private static final int VALUE_DRIP = 10002;
    private static final int VALUE_PRICE = 10003;
    private static final int VALUE_WET = 10004;
    private static final int VALUE_HOUR = 10005;
    private static final int VALUE_GREED = 10006;
    private static final int OPERATOR_NOT = 10010;
    private static final int OPERATOR_OR = 10011;
    private static final int OPERATOR_AND = 10012;
    private static final int OPERATOR_LESS = 10013;
    private static final int OPERATOR_EQUAL = 10014;
    private static final int OPERATOR_PLUS = 10015;
    private static final int OPERATOR_MINUS = 10016;
    private static final int OPERATOR_TIMES = 10017;
    private static final int OPERATOR_OVER = 10018;

    private static final int MOST_EXPRS_AROUND = 5;
    private static final int MOST_NOTS = 6;
    // Each EXPR that is open holds back at most one number for each of its five kinds of operator.
    private static final int MOST_HELD = 5 * (MOST_EXPRS_AROUND + 1) + 1;

    private final Reader reader = new Reader();
    private final Book book = new Book();
    private final Book kept = new Book();
    private final State draft = new State();
    private final Walk walk = new Walk();
    private final Sharing sharing = new Sharing();
    private final Guess guess = new Guess();
    private Town town = new Town();
    private boolean isKept = false;
    private int seedNow = 0;

    public GrottoHours() {
    }

    // ---- the tape

    public int feed(int a, int b, int c, int d, int e) {
        Tape tape = reader.tape;
        if (tape.length + BYTES_OF_A_FEED > MOST_BYTES) {
            return NONE;
        }
        tape.add(a);
        tape.add(b);
        tape.add(c);
        tape.add(d);
        tape.add(e);
        return tape.length;
    }

    public int port(int n) throws IllegalArgumentException {
        if (n < 0 || n > reader.tape.length) {
            throw new IllegalArgumentException("the tape has not so many bytes");
        }
        int faultOfText = reader.read(n);
        reader.tape.length = 0;
        if (faultOfText != 0) {
            book.refuse(REFUSED_TEXTS);
            return faultOfText;
        }
        Town old = town;
        town = reader.draft;
        reader.draft = old;
        book.begin(town);
        isKept = false;
        return 0;
    }

    public int fault() {
        return reader.faultPlace;
    }

    // ---- what is so now

    public int count(int what) throws NoSuchElementException {
        State now = book.state;
        switch (what) {
            case 0: return town.grottoes;
            case 1: return town.guilds;
            case 2: return now.hour;
            case 3: return town.wetOf(now.hour);
            case 4: return town.mostSin();
            case 5: return now.hiredBits(town);
            case 6: return now.drained;
            case 7: return now.purses(town);
            case 8: return now.sins(town);
            case 9: return book.acts.many;
            case 10: return book.seen.many;
            case 11: return reader.tape.length;
            case 12: return book.refused[REFUSED_TEXTS];
            case 13: return book.refused[REFUSED_ACTS];
            case 14: return book.refused[REFUSED_SEEN];
            default: throw new NoSuchElementException("no such count");
        }
    }

    public int grotto(int grotto, int what) throws NoSuchElementException {
        needGrotto(grotto);
        switch (what) {
            case 0: return town.drip[grotto];
            case 1: return town.phase[grotto];
            case 2: return town.price[grotto];
            case 3: return town.hollow[grotto] ? 1 : 0;
            case 4: return book.state.isDrained(grotto) ? 1 : 0;
            case 5: return book.state.holderOf(town, grotto);
            case 6: return nextDrip(grotto);
            default: throw new NoSuchElementException("no such fact of a grotto");
        }
    }

    public int guild(int guild, int what) throws NoSuchElementException {
        needGuild(guild);
        State now = book.state;
        switch (what) {
            case 0: return town.greed[guild];
            case 1: return now.sin[guild];
            case 2: return now.purse[guild];
            case 3: return now.silences[guild];
            case 4: return now.hired[guild];
            case 5: return costNow(guild);
            default: throw new NoSuchElementException("no such fact of a guild");
        }
    }

    // ---- ACTS

    public int hours(int many) {
        State now = book.state;
        if (!isWithin(many, 1, MOST_HOURS_OF_AN_ACT) || now.hour + many > MOST_HOUR) {
            return book.refuse(REFUSED_ACTS);
        }
        book.keepAct();
        for (int i = 0; i < many; i++) {
            passHour(now, town.wetOf(now.hour));
        }
        return now.hour;
    }

    public boolean hire(int guild, int grotto) throws NoSuchElementException {
        needGuild(guild);
        needGrotto(grotto);
        if (book.state.holderOf(town, grotto) != NONE) {
            book.refuse(REFUSED_ACTS);
            return false;
        }
        book.keepAct();
        book.state.hired[guild] = grotto;
        return true;
    }

    public int dismiss(int guild) throws NoSuchElementException {
        needGuild(guild);
        int grotto = book.state.hired[guild];
        if (grotto == NONE) {
            return book.refuse(REFUSED_ACTS);
        }
        book.keepAct();
        book.state.hired[guild] = NONE;
        return grotto;
    }

    public int confess(int guild) throws NoSuchElementException {
        needGuild(guild);
        State now = book.state;
        if (now.purse[guild] < CONFESSION) {
            return book.refuse(REFUSED_ACTS);
        }
        book.keepAct();
        now.purse[guild] -= CONFESSION;
        now.sin[guild] /= 2;
        return now.sin[guild];
    }

    public boolean drain(int grotto, boolean is) throws NoSuchElementException {
        needGrotto(grotto);
        if (book.state.isDrained(grotto) == is) {
            book.refuse(REFUSED_ACTS);
            return false;
        }
        book.keepAct();
        book.state.turn(grotto);
        return true;
    }

    public int give(int guild, int much) throws NoSuchElementException {
        needGuild(guild);
        if (!isWithin(much, 1, MOST_GIFT)) {
            return book.refuse(REFUSED_ACTS);
        }
        book.keepAct();
        book.state.enrich(guild, much);
        return book.state.purse[guild];
    }

    public int undo() {
        return book.acts.takeBack(book.state);
    }

    // ---- what comes, if only HOURS go by

    public int then(int guild, int hours, int what) throws NoSuchElementException, IllegalArgumentException {
        needGuild(guild);
        needWhat(what, 3);
        needWithin(hours, 0, MOST_HOURS_AHEAD);
        walk.begin(town, book.state, guild);
        walk.passHours(town, hours);
        switch (what) {
            case 0: return walk.sin;
            case 1: return walk.purse;
            case 2: return walk.silences;
            default: return walk.hired;
        }
    }

    public int dripping(int k) throws IllegalArgumentException {
        needWithin(k, 1, MOST_HOURS_AHEAD);
        return dripBits(k);
    }

    public int first(int guild) throws NoSuchElementException {
        needGuild(guild);
        walk.begin(town, book.state, guild);
        for (int k = 1; k <= MOST_HOURS_AHEAD; k++) {
            // Not by the count: that stays at 999, while SILENCES come all the same.
            if (walk.passHour(town, town.wetOf(walk.hour))) {
                return k;
            }
        }
        return NONE;
    }

    public int dismissed(int guild) throws NoSuchElementException {
        needGuild(guild);
        if (book.state.hired[guild] == NONE) {
            return NONE;
        }
        walk.begin(town, book.state, guild);
        for (int k = 1; k <= MOST_HOURS_AHEAD; k++) {
            walk.passHours(town, 1);
            if (walk.hired == NONE) {
                return k;
            }
        }
        return NONE;
    }

    public int most(int hours, int what) throws NoSuchElementException, IllegalArgumentException {
        needWhat(what, 1);
        needWithin(hours, 0, MOST_HOURS_AHEAD);
        int best = NONE;
        int bestMuch = NONE;
        for (int guild = 0; guild < town.guilds; guild++) {
            walk.begin(town, book.state, guild);
            walk.passHours(town, hours);
            int much = what == 0 ? walk.purse : walk.sin;
            if (much > bestMuch) {
                best = guild;
                bestMuch = much;
            }
        }
        return best;
    }

    public int hush(int hours) throws IllegalArgumentException {
        needWithin(hours, 1, MOST_HOURS_AHEAD);
        int longest = 0;
        int row = 0;
        for (int k = 1; k <= hours; k++) {
            row = dripBits(k) == 0 ? row + 1 : 0;
            longest = Math.max(longest, row);
        }
        return longest;
    }

    public int chorus(int hours) throws IllegalArgumentException {
        needWithin(hours, 1, MOST_HOURS_AHEAD);
        int best = NONE;
        int bestMany = NONE;
        for (int k = 1; k <= hours; k++) {
            int many = Integer.bitCount(dripBits(k));
            if (many > bestMany) {
                best = k;
                bestMany = many;
            }
        }
        return best;
    }

    // ---- what comes round, were it always wet and nothing DRAINED

    public int together(int some) throws IllegalArgumentException {
        needGrottoes(some);
        int k = 1;
        int rhythmSoFar = 1;
        for (int grotto = 0; grotto < town.grottoes; grotto++) {
            if (isOneOf(some, grotto)) {
                k = nextOf(grotto, k, rhythmSoFar);
                if (k == NONE) {
                    return NONE;
                }
                rhythmSoFar = leastCommon(rhythmSoFar, town.drip[grotto]);
            }
        }
        return k;
    }

    public int rhythm(int some) throws IllegalArgumentException {
        needGrottoes(some);
        int all = 1;
        for (int grotto = 0; grotto < town.grottoes; grotto++) {
            if (isOneOf(some, grotto)) {
                all = leastCommon(all, town.drip[grotto]);
            }
        }
        return all;
    }

    public int often(int grotto, int hours) throws NoSuchElementException, IllegalArgumentException {
        needGrotto(grotto);
        needWithin(hours, 0, MOST_HOURS_AHEAD);
        int many = 0;
        for (int k = 1; k <= hours; k++) {
            if (dripsAhead(grotto, k)) {
                many++;
            }
        }
        return many;
    }

    // ---- what to do best

    public int toHire(int guild, int hours, int what) throws NoSuchElementException, IllegalArgumentException {
        needGuild(guild);
        needWhat(what, 1);
        needWithin(hours, 1, MOST_HOURS_AHEAD);
        int best = NONE;
        int bestSin = NONE;
        for (int grotto = 0; grotto < town.grottoes; grotto++) {
            int holder = book.state.holderOf(town, grotto);
            if (holder == NONE || holder == guild) {
                walk.begin(town, book.state, guild);
                walk.hired = grotto;
                walk.passHours(town, hours);
                if (best == NONE || walk.sin < bestSin) {
                    best = grotto;
                    bestSin = walk.sin;
                }
            }
        }
        return what == 0 ? best : bestSin;
    }

    public int shared(int what) throws NoSuchElementException {
        needWhat(what, 1);
        sharing.share(town, book.state);
        return what == 0 ? sharing.many : sharing.much;
    }

    public int has(int guild) throws NoSuchElementException {
        needGuild(guild);
        sharing.share(town, book.state);
        return sharing.row[guild];
    }

    public int toGive(int guild, int hours) throws NoSuchElementException, IllegalArgumentException {
        needGuild(guild);
        needWithin(hours, 1, MOST_HOURS_AHEAD);
        if (book.state.hired[guild] == NONE) {
            return NONE;
        }
        if (town.prays.minds(VALUE_PURSE) || town.costs.minds(VALUE_PURSE)) {
            return leastOfAllPurses(guild, hours);
        }
        return leastByHalves(guild, hours);
    }

    public int confessing(int guild, int hours) throws NoSuchElementException, IllegalArgumentException {
        needGuild(guild);
        needWithin(hours, 0, MOST_HOURS_AHEAD);
        if (book.state.purse[guild] < CONFESSION) {
            return 0;
        }
        walk.begin(town, book.state, guild);
        walk.passHours(town, hours);
        int sinIfNot = walk.sin;
        walk.begin(town, book.state, guild);
        walk.repent();
        walk.passHours(town, hours);
        return sinIfNot - walk.sin;
    }

    // ---- what was SEEN

    public int see(int guild, int hours, int sin) throws NoSuchElementException {
        needGuild(guild);
        Seen seen = book.seen;
        boolean isFit = isWithin(hours, 0, MOST_HOURS_SEEN) && isWithin(sin, 0, MOST_SIN);
        if (!isFit || seen.many >= MOST_SEEN) {
            return book.refuse(REFUSED_SEEN);
        }
        seen.add(guild, hours, sin);
        return seen.many;
    }

    public int greedy(int what) throws NoSuchElementException {
        needWhat(what, 2);
        guess.weigh(town, book, walk);
        switch (what) {
            case 0: return guess.many;
            case 1: return guess.earliest;
            default: return guess.isSoWithout ? 1 : 0;
        }
    }

    public int look(int what) throws NoSuchElementException {
        needWhat(what, 1);
        guess.weigh(town, book, walk);
        int best = guess.bestLook();
        if (what == 0) {
            return best;
        }
        return best == NONE ? 0 : guess.unlikeBehind(best);
    }

    public void forget() {
        book.seen.many = 0;
    }

    // ---- chance and choice

    public int drought(int guild, int hours, int tenths) throws NoSuchElementException, IllegalArgumentException {
        needGuild(guild);
        needWithin(hours, 1, MOST_HOURS_OF_DROUGHT);
        needWithin(tenths, 0, 10);
        int likely = 0;
        for (int dryBits = 0; dryBits < 1 << hours; dryBits++) {
            int weight = 1;
            boolean isSilent = false;
            walk.begin(town, book.state, guild);
            for (int i = 0; i < hours; i++) {
                boolean isDry = isOneOf(dryBits, i);
                weight *= isDry ? tenths : 10 - tenths;
                // As in first: not by the count, which stays at 999.
                if (walk.passHour(town, isDry ? 0 : MOST_WET)) {
                    isSilent = true;
                }
            }
            if (isSilent) {
                likely += weight;
            }
        }
        return likely;
    }

    public int game(int guild, int other, int what) throws NoSuchElementException, IllegalArgumentException {
        needGuild(guild);
        needGuild(other);
        needWhat(what, 1);
        if (guild == other) {
            throw new IllegalArgumentException("a game needs two guilds");
        }
        int many = 0;
        int earliest = NONE;
        for (int mine = 0; mine <= mostChoice(guild); mine++) {
            for (int others = 0; others <= mostChoice(other); others++) {
                if (isContent(guild, mine, other, others) && isContent(other, others, guild, mine)) {
                    many++;
                    earliest = earliest == NONE ? 10 * mine + others : earliest;
                }
            }
        }
        return what == 0 ? many : earliest;
    }

    public int years(int seed, int n, int what) throws NoSuchElementException, IllegalArgumentException {
        needWhat(what, 2);
        needWithin(n, 0, MOST_HOURS_AHEAD);
        draft.copy(book.state);
        seedNow = seed;
        int silences = 0;
        for (int i = 0; i < n; i++) {
            chance(draw(7));
            silences += passHour(draft, draw(4));
        }
        switch (what) {
            case 0: return silences;
            case 1: return draft.purses(town);
            default: return Integer.bitCount(draft.hiredBits(town));
        }
    }

    // ---- the image

    public void image() {
        kept.copy(book);
        isKept = true;
    }

    public boolean restore() {
        if (isKept) {
            book.copy(kept);
        }
        return isKept;
    }

    // ---- what the calls need

    private void needGrotto(int grotto) throws NoSuchElementException {
        if (!town.isGrotto(grotto)) {
            throw new NoSuchElementException("no such grotto");
        }
    }

    private void needGuild(int guild) throws NoSuchElementException {
        if (!town.isGuild(guild)) {
            throw new NoSuchElementException("no such guild");
        }
    }

    private static void needWhat(int what, int highest) throws NoSuchElementException {
        if (!isWithin(what, 0, highest)) {
            throw new NoSuchElementException("no such question");
        }
    }

    private static void needWithin(int number, int low, int high) throws IllegalArgumentException {
        if (!isWithin(number, low, high)) {
            throw new IllegalArgumentException("a number out of its bounds");
        }
    }

    private void needGrottoes(int some) throws IllegalArgumentException {
        if (some < 0 || some >= 1 << town.grottoes) {
            throw new IllegalArgumentException("not bits of grottoes");
        }
    }

    private static boolean isWithin(int number, int low, int high) {
        return number >= low && number <= high;
    }

    private static boolean isOneOf(int bits, int index) {
        return (bits >> index & 1) != 0;
    }

    // ---- parts of the calls

    private boolean dripsAhead(int grotto, int k) {
        int hour = book.state.hour + k - 1;
        return town.drips(grotto, hour, town.wetOf(hour), book.state.drained);
    }

    private int dripBits(int k) {
        int bits = 0;
        for (int grotto = 0; grotto < town.grottoes; grotto++) {
            if (dripsAhead(grotto, k)) {
                bits |= 1 << grotto;
            }
        }
        return bits;
    }

    private int nextDrip(int grotto) {
        for (int k = 1; k <= MOST_HOURS_AHEAD; k++) {
            if (dripsAhead(grotto, k)) {
                return k;
            }
        }
        return NONE;
    }

    private int costNow(int guild) {
        walk.begin(town, book.state, guild);
        return walk.cost(town);
    }

    /** An HOUR of all GUILDS: how many SILENCES there were in it. */
    private int passHour(State state, int wet) {
        int silences = 0;
        for (int guild = 0; guild < town.guilds; guild++) {
            walk.begin(town, state, guild);
            if (walk.passHour(town, wet)) {
                silences++;
            }
            walk.end(state, guild);
        }
        state.hour++;
        return silences;
    }

    /**
     * The first of k, k + step, k + 2 steps .. in which the GROTTO comes round. All of these suit the GROTTOES that
     * were asked ahead of it, and as many as its DRIP show all that it can do.
     */
    private int nextOf(int grotto, int k, int step) {
        for (int i = 0; i < town.drip[grotto]; i++) {
            int later = k + i * step;
            if (town.comesRound(grotto, book.state.hour + later - 1)) {
                return later;
            }
        }
        return NONE;
    }

    private static int leastCommon(int a, int b) {
        int all = a;
        for (int i = 1; i < b && all % b != 0; i++) {
            all += a;
        }
        return all;
    }

    private boolean keeps(int guild, int hours, int purse) {
        walk.begin(town, book.state, guild);
        walk.purse = purse;
        for (int i = 0; i < hours && walk.hired != NONE; i++) {
            walk.passHour(town, town.wetOf(walk.hour));
        }
        return walk.hired != NONE;
    }

    private int leastOfAllPurses(int guild, int hours) {
        for (int purse = 0; purse <= MOST_PURSE; purse++) {
            if (keeps(guild, hours, purse)) {
                return purse;
            }
        }
        return NONE;
    }

    /** Where no rule minds PURSE, more of it never does harm, so it needn't be tried one by one. */
    private int leastByHalves(int guild, int hours) {
        int low = 0;
        int high = MOST_PURSE + 1;
        for (int i = 0; i <= MOST_PURSE && low < high; i++) {
            int middle = (low + high) / 2;
            if (middle > MOST_PURSE || keeps(guild, hours, middle)) {
                high = middle;
            } else {
                low = middle + 1;
            }
        }
        return low > MOST_PURSE ? NONE : low;
    }

    private int mostChoice(int guild) {
        return book.state.purse[guild] < CONFESSION ? 0 : 1;
    }

    /** Whether the GUILD would not gain more by its other choice, the other one's being as it is. */
    private boolean isContent(int guild, int choice, int other, int others) {
        int otherChoice = 1 - choice;
        return otherChoice > mostChoice(guild)
            || gain(guild, otherChoice, other, others) <= gain(guild, choice, other, others);
    }

    /** The 3 are lost for the other one's quiet HOURS, whether or not the GUILD itself is quiet in them. */
    private int gain(int guild, int choice, int other, int others) {
        return 5 * quietHours(guild, choice) - 6 * choice - 3 * quietHours(other, others);
    }

    /** In how many of the next HOURS the GUILD has no SILENCE. */
    private int quietHours(int guild, int choice) {
        walk.begin(town, book.state, guild);
        if (choice == 1) {
            walk.repent();
        }
        int many = 0;
        for (int i = 0; i < HOURS_OF_A_GAME; i++) {
            if (!walk.passHour(town, town.wetOf(walk.hour))) {
                many++;
            }
        }
        return many;
    }

    private int draw(int n) {
        seedNow = seedNow * 1103515245 + 12345;
        return n < 1 ? 0 : (seedNow >>> 16 & 32767) % n;
    }

    /** What chance does to the draft ahead of an HOUR. */
    private void chance(int event) {
        if (town.guilds == 0 || town.grottoes == 0) {
            return;
        }
        if (event == 0) {
            int guild = draw(town.guilds);
            int grotto = draw(town.grottoes);
            if (draft.holderOf(town, grotto) == NONE) {
                draft.hired[guild] = grotto;
            }
        } else if (event == 1) {
            draft.turn(draw(town.grottoes));
        } else if (event == 2) {
            draft.enrich(draw(town.guilds), 20);
        }
    }

    // ---- classes

    /** An EXPR as codes in the order in which a stack needs them; without codes it wasn't told. */
    private static final class Rule {
        private final int[] codes = new int[MOST_BYTES];
        private final int[] held = new int[MOST_HELD];
        private final boolean knowsGreed;
        private int length = 0;

        Rule(boolean knowsGreed) {
            this.knowsGreed = knowsGreed;
        }

        void clear() {
            length = 0;
        }

        boolean isTold() {
            return length > 0;
        }

        void add(int code) {
            if (length < codes.length) {
                codes[length] = code;
                length++;
            }
        }

        boolean minds(int code) {
            for (int i = 0; i < length; i++) {
                if (codes[i] == code) {
                    return true;
                }
            }
            return false;
        }

        int worth(Town town, Walk walk) {
            int many = 0;
            for (int i = 0; i < length; i++) {
                int code = codes[i];
                if (code < OPERATOR_NOT && many < held.length) {
                    held[many] = code <= MOST_NUMBER ? code : walk.valueOf(town, code);
                    many++;
                } else if (code == OPERATOR_NOT && many >= 1) {
                    held[many - 1] = held[many - 1] == 0 ? 1 : 0;
                } else if (code > OPERATOR_NOT && many >= 2) {
                    many--;
                    held[many - 1] = join(code, held[many - 1], held[many]);
                }
            }
            return many == 0 ? 0 : held[0];
        }

        private static int join(int operator, int a, int b) {
            switch (operator) {
                case OPERATOR_OR: return a != 0 || b != 0 ? 1 : 0;
                case OPERATOR_AND: return a != 0 && b != 0 ? 1 : 0;
                case OPERATOR_LESS: return a < b ? 1 : 0;
                case OPERATOR_EQUAL: return a == b ? 1 : 0;
                case OPERATOR_PLUS: return a + b;
                case OPERATOR_MINUS: return a - b;
                case OPERATOR_TIMES: return a * b;
                default: return b == 0 ? 0 : a / b;
            }
        }
    }

    /** What a TEXT tells: it stays as it is until the next one. */
    private static final class Town {
        private int grottoes = 0;
        private final int[] drip = new int[MOST_GROTTOES];
        private final int[] phase = new int[MOST_GROTTOES];
        private final int[] price = new int[MOST_GROTTOES];
        private final boolean[] hollow = new boolean[MOST_GROTTOES];
        private int guilds = 0;
        private final int[] greed = new int[MOST_GUILDS];
        private final int[] sin = new int[MOST_GUILDS];
        private final int[] purse = new int[MOST_GUILDS];
        private final int[] hired = new int[MOST_GUILDS];
        private int wets = 0;
        private final int[] wet = new int[MOST_WETS];
        private int bound = 0;
        private final Rule prays = new Rule(false);
        private final Rule costs = new Rule(true);

        void clear() {
            grottoes = 0;
            guilds = 0;
            wets = 0;
            bound = 0;
            prays.clear();
            costs.clear();
        }

        boolean isGrotto(int grotto) {
            return grotto >= 0 && grotto < grottoes;
        }

        boolean isGuild(int guild) {
            return guild >= 0 && guild < guilds;
        }

        boolean isBoundTold() {
            return bound != 0;
        }

        int mostSin() {
            return isBoundTold() ? bound : BOUND_UNTOLD;
        }

        int wetOf(int hour) {
            return wets < 1 || hour < 0 ? WET_UNTOLD : wet[hour % wets];
        }

        boolean comesRound(int grotto, int hour) {
            return isGrotto(grotto) && drip[grotto] >= 1 && (hour + phase[grotto]) % drip[grotto] == 0;
        }

        boolean drips(int grotto, int hour, int wetness, int drained) {
            return wetness != 0 && !isOneOf(drained, grotto) && comesRound(grotto, hour);
        }

        boolean isHired(int grotto) {
            for (int guild = 0; guild < guilds; guild++) {
                if (hired[guild] == grotto) {
                    return true;
                }
            }
            return false;
        }
    }

    /** The bytes that were fed, and the TOKENS in them, one at a time. */
    private static final class Tape {
        private final byte[] bytes = new byte[MOST_BYTES];
        private int length = 0;
        private int end = 0;
        private int place = 0;
        private int kind = TOKEN_END;
        private int start = 0;
        private int number = 0;

        void add(int fourBytes) {
            for (int shift = 24; shift >= 0; shift -= 8) {
                if (length < bytes.length) {
                    bytes[length] = (byte) (fourBytes >> shift);
                    length++;
                }
            }
        }

        void open(int n) {
            end = Math.min(n, length);
            place = 0;
            advance();
        }

        void advance() {
            while (place < end && kindOf(at(place)) == TOKEN_BLANK) {
                place++;
            }
            start = place;
            kind = place < end ? kindOf(at(place)) : TOKEN_END;
            boolean isRow = kind == TOKEN_WORD || kind == TOKEN_NUMBER;
            number = 0;
            while (place < end && (place == start || isRow && kindOf(at(place)) == kind)) {
                number = Math.min(MOST_NUMBER, number) * 10 + at(place) - '0';
                place++;
            }
            // Zeros ahead count as digits too.
            if (place - start > MOST_DIGITS) {
                number = MOST_NUMBER + 1;
            }
        }

        boolean isAtWord(String word) {
            if (kind != TOKEN_WORD || place - start != word.length()) {
                return false;
            }
            for (int i = 0; i < word.length(); i++) {
                if (at(start + i) != word.charAt(i)) {
                    return false;
                }
            }
            return true;
        }

        boolean isAtSign(char sign) {
            return kind == TOKEN_SIGN && at(start) == sign;
        }

        private int at(int index) {
            return index >= 0 && index < bytes.length ? bytes[index] & 255 : 0;
        }

        private static int kindOf(int sign) {
            if (sign == 32 || sign == 10) {
                return TOKEN_BLANK;
            }
            if (sign >= 'a' && sign <= 'z') {
                return TOKEN_WORD;
            }
            if (sign >= '0' && sign <= '9') {
                return TOKEN_NUMBER;
            }
            return ";()+-*/<=".indexOf((char) sign) >= 0 ? TOKEN_SIGN : TOKEN_STRANGE;
        }
    }

    /** Reads a TEXT from the tape into a draft. The first FAULT stays, and nothing is read behind it. */
    private static final class Reader {
        private final Tape tape = new Tape();
        private Town draft = new Town();
        private int faultKind = 0;
        private int faultPlace = NONE;

        int read(int n) {
            draft.clear();
            faultKind = 0;
            faultPlace = NONE;
            tape.open(n);
            for (int i = 0; i < MOST_BYTES && isFine() && tape.kind != TOKEN_END; i++) {
                readLine();
                skipSign(';');
            }
            return faultKind;
        }

        private boolean isFine() {
            return faultKind == 0;
        }

        private void refuse(int kind) {
            if (isFine()) {
                faultKind = kind;
                faultPlace = tape.start;
            }
        }

        private void skipSign(char sign) {
            if (!tape.isAtSign(sign)) {
                refuse(FAULT_CANT_STAND);
            } else if (isFine()) {
                tape.advance();
            }
        }

        private int readNumber(int low, int high) {
            if (tape.kind != TOKEN_NUMBER) {
                refuse(FAULT_CANT_STAND);
            } else if (!isWithin(tape.number, low, high)) {
                refuse(FAULT_TOO_MUCH);
            }
            int number = tape.number;
            if (isFine()) {
                tape.advance();
            }
            return number;
        }

        private void readLine() {
            if (tape.isAtWord("grotto")) {
                readGrotto(false);
            } else if (tape.isAtWord("hollow")) {
                readGrotto(true);
            } else if (tape.isAtWord("guild")) {
                readGuild();
            } else if (tape.isAtWord("wet")) {
                readWet();
            } else if (tape.isAtWord("bound")) {
                readBound();
            } else if (tape.isAtWord("prays")) {
                readRule(draft.prays);
            } else if (tape.isAtWord("costs")) {
                readRule(draft.costs);
            } else {
                refuse(FAULT_CANT_STAND);
            }
        }

        private void readGrotto(boolean isHollow) {
            int grotto = draft.grottoes;
            if (grotto >= MOST_GROTTOES) {
                refuse(FAULT_TOO_MUCH);
                return;
            }
            tape.advance();
            draft.drip[grotto] = readNumber(1, MOST_DRIP);
            draft.phase[grotto] = readNumber(0, MOST_PHASE);
            draft.price[grotto] = readNumber(0, MOST_PRICE);
            draft.hollow[grotto] = isHollow;
            draft.grottoes++;
        }

        private void readGuild() {
            int guild = draft.guilds;
            if (guild >= MOST_GUILDS) {
                refuse(FAULT_TOO_MUCH);
                return;
            }
            tape.advance();
            draft.greed[guild] = readNumber(0, MOST_GREED);
            draft.sin[guild] = readNumber(0, MOST_SIN);
            draft.purse[guild] = readNumber(0, MOST_PURSE);
            draft.hired[guild] = NONE;
            if (isFine() && tape.isAtWord("hires")) {
                tape.advance();
                draft.hired[guild] = readHired();
            }
            draft.guilds++;
        }

        private int readHired() {
            if (tape.kind == TOKEN_NUMBER && tape.number <= MOST_NUMBER) {
                if (!draft.isGrotto(tape.number)) {
                    refuse(FAULT_UNKNOWN);
                } else if (draft.isHired(tape.number)) {
                    refuse(FAULT_HIRED);
                }
            }
            return readNumber(0, MOST_NUMBER);
        }

        private void readWet() {
            if (draft.wets > 0) {
                refuse(FAULT_TWICE);
                return;
            }
            tape.advance();
            draft.wet[0] = readNumber(0, MOST_WET);
            draft.wets = 1;
            for (int i = 1; i <= MOST_WETS && isFine() && tape.kind == TOKEN_NUMBER; i++) {
                if (i == MOST_WETS) {
                    refuse(FAULT_TOO_MUCH);
                } else {
                    draft.wet[i] = readNumber(0, MOST_WET);
                    draft.wets++;
                }
            }
        }

        private void readBound() {
            if (draft.isBoundTold()) {
                refuse(FAULT_TWICE);
                return;
            }
            tape.advance();
            draft.bound = readNumber(1, MOST_BOUND);
        }

        private void readRule(Rule rule) {
            if (rule.isTold()) {
                refuse(FAULT_TWICE);
                return;
            }
            tape.advance();
            readExpr(rule, 0);
        }

        /** The depth is how many EXPRS stand around this one. */
        private void readExpr(Rule rule, int depth) {
            if (depth > MOST_EXPRS_AROUND) {
                boolean canStand = tape.kind == TOKEN_NUMBER || tape.kind == TOKEN_WORD || tape.isAtSign('(');
                refuse(canStand ? FAULT_TOO_MUCH : FAULT_CANT_STAND);
                return;
            }
            readAnd(rule, depth);
            for (int i = 0; i < MOST_BYTES && isFine() && tape.isAtWord("or"); i++) {
                tape.advance();
                readAnd(rule, depth);
                rule.add(OPERATOR_OR);
            }
        }

        private void readAnd(Rule rule, int depth) {
            readNot(rule, depth);
            for (int i = 0; i < MOST_BYTES && isFine() && tape.isAtWord("and"); i++) {
                tape.advance();
                readNot(rule, depth);
                rule.add(OPERATOR_AND);
            }
        }

        private void readNot(Rule rule, int depth) {
            int nots = 0;
            for (int i = 0; i < MOST_NOTS && tape.isAtWord("not"); i++) {
                tape.advance();
                nots++;
            }
            if (tape.isAtWord("not")) {
                refuse(FAULT_TOO_MUCH);
                return;
            }
            readTest(rule, depth);
            for (int i = 0; i < nots; i++) {
                rule.add(OPERATOR_NOT);
            }
        }

        private void readTest(Rule rule, int depth) {
            readSum(rule, depth);
            boolean isLess = tape.isAtSign('<');
            if (isFine() && (isLess || tape.isAtSign('='))) {
                tape.advance();
                readSum(rule, depth);
                rule.add(isLess ? OPERATOR_LESS : OPERATOR_EQUAL);
            }
        }

        private void readSum(Rule rule, int depth) {
            readProduct(rule, depth);
            for (int i = 0; i < MOST_BYTES && isFine() && (tape.isAtSign('+') || tape.isAtSign('-')); i++) {
                int operator = tape.isAtSign('+') ? OPERATOR_PLUS : OPERATOR_MINUS;
                tape.advance();
                readProduct(rule, depth);
                rule.add(operator);
            }
        }

        private void readProduct(Rule rule, int depth) {
            readPart(rule, depth);
            for (int i = 0; i < MOST_BYTES && isFine() && (tape.isAtSign('*') || tape.isAtSign('/')); i++) {
                int operator = tape.isAtSign('*') ? OPERATOR_TIMES : OPERATOR_OVER;
                tape.advance();
                readPart(rule, depth);
                rule.add(operator);
            }
        }

        private void readPart(Rule rule, int depth) {
            if (tape.isAtSign('(')) {
                tape.advance();
                readExpr(rule, depth + 1);
                skipSign(')');
            } else if (tape.kind != TOKEN_WORD) {
                rule.add(readNumber(0, MOST_NUMBER));
            } else if (valueCode(rule) == NONE) {
                refuse(FAULT_UNKNOWN);
            } else {
                rule.add(valueCode(rule));
                tape.advance();
            }
        }

        private int valueCode(Rule rule) {
            if (tape.isAtWord("sin")) {
                return VALUE_SIN;
            }
            if (tape.isAtWord("purse")) {
                return VALUE_PURSE;
            }
            if (tape.isAtWord("drip")) {
                return VALUE_DRIP;
            }
            if (tape.isAtWord("price")) {
                return VALUE_PRICE;
            }
            if (tape.isAtWord("wet")) {
                return VALUE_WET;
            }
            if (tape.isAtWord("hour")) {
                return VALUE_HOUR;
            }
            return rule.knowsGreed && tape.isAtWord("greed") ? VALUE_GREED : NONE;
        }
    }

    /** All that HOURS and ACTS change. */
    private static final class State {
        private static final int CELLS = 2 + 4 * MOST_GUILDS;
        private int hour = 0;
        private int drained = 0;
        private final int[] sin = new int[MOST_GUILDS];
        private final int[] purse = new int[MOST_GUILDS];
        private final int[] silences = new int[MOST_GUILDS];
        private final int[] hired = new int[MOST_GUILDS];

        void begin(Town town) {
            hour = 0;
            drained = 0;
            for (int guild = 0; guild < town.guilds; guild++) {
                sin[guild] = town.sin[guild];
                purse[guild] = town.purse[guild];
                silences[guild] = 0;
                hired[guild] = town.hired[guild];
            }
        }

        void copy(State other) {
            hour = other.hour;
            drained = other.drained;
            for (int guild = 0; guild < MOST_GUILDS; guild++) {
                sin[guild] = other.sin[guild];
                purse[guild] = other.purse[guild];
                silences[guild] = other.silences[guild];
                hired[guild] = other.hired[guild];
            }
        }

        void write(int[] cells, int at) {
            if (at < 0 || at + CELLS > cells.length) {
                return;
            }
            cells[at] = hour;
            cells[at + 1] = drained;
            for (int guild = 0; guild < MOST_GUILDS; guild++) {
                int cell = at + 2 + 4 * guild;
                cells[cell] = sin[guild];
                cells[cell + 1] = purse[guild];
                cells[cell + 2] = silences[guild];
                cells[cell + 3] = hired[guild];
            }
        }

        void read(int[] cells, int at) {
            if (at < 0 || at + CELLS > cells.length) {
                return;
            }
            hour = cells[at];
            drained = cells[at + 1];
            for (int guild = 0; guild < MOST_GUILDS; guild++) {
                int cell = at + 2 + 4 * guild;
                sin[guild] = cells[cell];
                purse[guild] = cells[cell + 1];
                silences[guild] = cells[cell + 2];
                hired[guild] = cells[cell + 3];
            }
        }

        boolean isDrained(int grotto) {
            return isOneOf(drained, grotto);
        }

        void turn(int grotto) {
            drained ^= 1 << grotto;
        }

        void enrich(int guild, int much) {
            if (guild >= 0 && guild < purse.length) {
                purse[guild] = Math.min(MOST_PURSE, purse[guild] + much);
            }
        }

        int holderOf(Town town, int grotto) {
            for (int guild = 0; guild < town.guilds; guild++) {
                if (hired[guild] == grotto) {
                    return guild;
                }
            }
            return NONE;
        }

        int hiredBits(Town town) {
            int bits = 0;
            for (int guild = 0; guild < town.guilds; guild++) {
                if (hired[guild] != NONE) {
                    bits |= 1 << hired[guild];
                }
            }
            return bits;
        }

        int purses(Town town) {
            int all = 0;
            for (int guild = 0; guild < town.guilds; guild++) {
                all += purse[guild];
            }
            return all;
        }

        int sins(Town town) {
            int all = 0;
            for (int guild = 0; guild < town.guilds; guild++) {
                all += sin[guild];
            }
            return all;
        }
    }

    /** For each ACT that is kept, what was so ahead of it. */
    private static final class Acts {
        private final int[] cells = new int[MOST_ACTS * State.CELLS];
        private int many = 0;

        void add(State before) {
            if (many >= MOST_ACTS) {
                many = MOST_ACTS - 1;
                System.arraycopy(cells, State.CELLS, cells, 0, many * State.CELLS);
            }
            before.write(cells, many * State.CELLS);
            many++;
        }

        int takeBack(State state) {
            if (many < 1) {
                return NONE;
            }
            many--;
            state.read(cells, many * State.CELLS);
            return many;
        }

        void copy(Acts other) {
            many = other.many;
            System.arraycopy(other.cells, 0, cells, 0, cells.length);
        }
    }

    /** What is SEEN. */
    private static final class Seen {
        private final int[] guilds = new int[MOST_SEEN];
        private final int[] behind = new int[MOST_SEEN];
        private final int[] sins = new int[MOST_SEEN];
        private int many = 0;

        void add(int guild, int hours, int sin) {
            if (many < MOST_SEEN) {
                guilds[many] = guild;
                behind[many] = hours;
                sins[many] = sin;
                many++;
            }
        }

        /** Whether all that is SEEN of a GUILD is so, if its SIN goes like this, HOUR by HOUR. */
        boolean suits(int guild, int[] course) {
            for (int i = 0; i < many; i++) {
                boolean isKnown = behind[i] >= 0 && behind[i] < course.length;
                if (guilds[i] == guild && isKnown && course[behind[i]] != sins[i]) {
                    return false;
                }
            }
            return true;
        }

        void copy(Seen other) {
            many = other.many;
            for (int i = 0; i < MOST_SEEN; i++) {
                guilds[i] = other.guilds[i];
                behind[i] = other.behind[i];
                sins[i] = other.sins[i];
            }
        }
    }

    /** All that an image keeps. */
    private static final class Book {
        private final State state = new State();
        private final Acts acts = new Acts();
        private final Seen seen = new Seen();
        private final int[] refused = new int[KINDS_OF_REFUSAL];

        void begin(Town town) {
            state.begin(town);
            acts.many = 0;
            seen.many = 0;
        }

        void keepAct() {
            acts.add(state);
        }

        int refuse(int kind) {
            if (kind >= 0 && kind < refused.length) {
                refused[kind]++;
            }
            return NONE;
        }

        void copy(Book other) {
            state.copy(other.state);
            acts.copy(other.acts);
            seen.copy(other.seen);
            for (int i = 0; i < KINDS_OF_REFUSAL; i++) {
                refused[i] = other.refused[i];
            }
        }
    }

    /** The way of one GUILD through HOURS: no GUILD's way touches another's, so each can be gone alone. */
    private static final class Walk {
        private int greed = 0;
        private int sin = 0;
        private int purse = 0;
        private int silences = 0;
        private int hired = NONE;
        private int hour = 0;
        private int wet = 0;
        private int drained = 0;

        void begin(Town town, State state, int guild) {
            if (!town.isGuild(guild)) {
                return;
            }
            greed = town.greed[guild];
            sin = state.sin[guild];
            purse = state.purse[guild];
            silences = state.silences[guild];
            hired = state.hired[guild];
            hour = state.hour;
            wet = town.wetOf(hour);
            drained = state.drained;
        }

        void end(State state, int guild) {
            if (guild < 0 || guild >= MOST_GUILDS) {
                return;
            }
            state.sin[guild] = sin;
            state.purse[guild] = purse;
            state.silences[guild] = silences;
            state.hired[guild] = hired;
        }

        void repent() {
            purse -= CONFESSION;
            sin /= 2;
        }

        void passHours(Town town, int many) {
            for (int i = 0; i < many; i++) {
                passHour(town, town.wetOf(hour));
            }
        }

        /** An HOUR with this WET: whether there was a SILENCE in it. */
        boolean passHour(Town town, int wetness) {
            wet = wetness;
            if (town.isGrotto(hired) && town.drips(hired, hour, wet, drained)) {
                pray(town);
                if (town.hollow[hired]) {
                    pray(town);
                }
            }
            purse = Math.min(MOST_PURSE, purse + 3 * greed);
            sin = Math.min(MOST_SIN, sin + greed);
            int much = cost(town);
            if (purse >= much) {
                purse -= much;
            } else {
                hired = NONE;
            }
            boolean isSilent = sin > town.mostSin();
            if (isSilent) {
                purse /= 2;
                silences = Math.min(MOST_SILENCES, silences + 1);
            }
            hour++;
            return isSilent;
        }

        int cost(Town town) {
            if (!town.isGrotto(hired)) {
                return 0;
            }
            int much = town.costs.isTold() ? town.costs.worth(town, this) : town.price[hired];
            return Math.max(0, Math.min(MOST_COST, much));
        }

        int valueOf(Town town, int code) {
            boolean isFound = hired >= 0 && hired < MOST_GROTTOES;
            switch (code) {
                case VALUE_SIN: return sin;
                case VALUE_PURSE: return purse;
                case VALUE_DRIP: return isFound ? town.drip[hired] : 0;
                case VALUE_PRICE: return isFound ? town.price[hired] : 0;
                case VALUE_WET: return wet;
                case VALUE_HOUR: return hour;
                default: return greed;
            }
        }

        private void pray(Town town) {
            int much = town.prays.isTold() ? town.prays.worth(town, this) : PRAYER_UNTOLD;
            sin -= Math.max(0, Math.min(sin, much));
        }
    }

    /** Who can have which GROTTO: as many GUILDS as can, by the least PRICES. */
    private static final class Sharing {
        private static final int SETS = 1 << MOST_GROTTOES;
        // One GUILD more is worth more than all PRICES together.
        private static final int WORTH_OF_A_GUILD = 1000;
        private final int[][] best = new int[MOST_GUILDS + 1][SETS];
        private final int[] row = new int[MOST_GUILDS];
        private int many = 0;
        private int much = 0;

        void share(Town town, State state) {
            for (int guild = town.guilds - 1; guild >= 0; guild--) {
                for (int taken = 0; taken < 1 << town.grottoes; taken++) {
                    // The GUILDS ahead can't have taken more than one each.
                    if (Integer.bitCount(taken) <= guild) {
                        best[guild][taken] = bestOf(town, state, guild, taken);
                    }
                }
            }
            many = 0;
            much = 0;
            int taken = 0;
            for (int guild = 0; guild < town.guilds; guild++) {
                int grotto = choice(town, state, guild, taken);
                row[guild] = grotto;
                if (town.isGrotto(grotto)) {
                    taken |= 1 << grotto;
                    many++;
                    much += town.price[grotto];
                }
            }
        }

        private int bestOf(Town town, State state, int guild, int taken) {
            int most = behind(town, guild, taken);
            for (int grotto = 0; grotto < town.grottoes; grotto++) {
                if (canHave(town, state, guild, grotto, taken)) {
                    most = Math.max(most, worthOf(town, guild, grotto, taken));
                }
            }
            return most;
        }

        /** The first GROTTO by which all is as good as it can be; none only if no GROTTO is so. */
        private int choice(Town town, State state, int guild, int taken) {
            for (int grotto = 0; grotto < town.grottoes; grotto++) {
                if (canHave(town, state, guild, grotto, taken)
                    && worthOf(town, guild, grotto, taken) == best[guild][taken]) {
                    return grotto;
                }
            }
            return NONE;
        }

        private int worthOf(Town town, int guild, int grotto, int taken) {
            return WORTH_OF_A_GUILD - town.price[grotto] + behind(town, guild, taken | 1 << grotto);
        }

        private int behind(Town town, int guild, int taken) {
            return guild + 1 >= town.guilds ? 0 : best[guild + 1][taken];
        }

        private static boolean canHave(Town town, State state, int guild, int grotto, int taken) {
            return !isOneOf(taken, grotto) && state.purse[guild] >= 10 * town.price[grotto];
        }
    }

    /** Which GUILDS and GREEDS suit what is SEEN, and who would be WORST by them. */
    private static final class Guess {
        private final int[][] sins = new int[MOST_GUILDS][MOST_HOURS_SEEN + 1];
        private final int[] course = new int[MOST_HOURS_SEEN + 1];
        private final int[] worstBits = new int[MOST_HOURS_SEEN + 1];
        private int many = 0;
        private int earliest = NONE;
        private boolean isSoWithout = true;

        void weigh(Town town, Book book, Walk walk) {
            many = 0;
            earliest = NONE;
            for (int k = 0; k <= MOST_HOURS_SEEN; k++) {
                worstBits[k] = 0;
            }
            for (int guild = 0; guild < town.guilds; guild++) {
                walk.begin(town, book.state, guild);
                follow(town, walk, sins[guild]);
            }
            isSoWithout = doOthersSuit(town, book.seen, NONE);
            for (int guild = 0; guild < town.guilds; guild++) {
                if (doOthersSuit(town, book.seen, guild)) {
                    tryGreeds(town, book, walk, guild);
                }
            }
        }

        /** Behind how many HOURS those that suit differ most. */
        int bestLook() {
            int best = NONE;
            for (int k = 1; k <= MOST_HOURS_SEEN && many > 0; k++) {
                if (best == NONE || unlikeBehind(k) > unlikeBehind(best)) {
                    best = k;
                }
            }
            return best;
        }

        int unlikeBehind(int k) {
            return k >= 0 && k < worstBits.length ? Integer.bitCount(worstBits[k]) : 0;
        }

        private void tryGreeds(Town town, Book book, Walk walk, int guild) {
            for (int greed = 0; greed <= MOST_GREED; greed++) {
                if (greed != town.greed[guild]) {
                    walk.begin(town, book.state, guild);
                    walk.greed = greed;
                    follow(town, walk, course);
                    if (book.seen.suits(guild, course)) {
                        many++;
                        earliest = earliest == NONE ? 10 * guild + greed : earliest;
                        markWorst(town, guild);
                    }
                }
            }
        }

        private static void follow(Town town, Walk walk, int[] sinsOfOne) {
            for (int k = 0; k < sinsOfOne.length; k++) {
                sinsOfOne[k] = walk.sin;
                walk.passHour(town, town.wetOf(walk.hour));
            }
        }

        private boolean doOthersSuit(Town town, Seen seen, int besides) {
            for (int guild = 0; guild < town.guilds; guild++) {
                if (guild != besides && !seen.suits(guild, sins[guild])) {
                    return false;
                }
            }
            return true;
        }

        private void markWorst(Town town, int changed) {
            for (int k = 1; k <= MOST_HOURS_SEEN; k++) {
                int worst = 0;
                int worstSin = NONE;
                for (int guild = 0; guild < town.guilds; guild++) {
                    int sin = guild == changed ? course[k] : sins[guild][k];
                    if (sin > worstSin) {
                        worst = guild;
                        worstSin = sin;
                    }
                }
                worstBits[k] |= 1 << worst;
            }
        }
    }
}
