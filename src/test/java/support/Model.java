import java.util.ArrayList;
import java.util.Arrays;
import java.util.List;

/**
 * The document's words again, as plainly as they can be put and without a thought of speed: all guilds go through
 * each hour together, all is tried, and rules are worked out from their tokens. Random runs compare the class with it.
 */
final class Model {
    static final int NONE = -1;
    static final long NSE = Check.NO_SUCH_ELEMENT;
    static final long IAE = Check.ILLEGAL_ARGUMENT;

    static final class Token {
        String text;
        int start;

        boolean isWord() {
            return text.charAt(0) >= 'a' && text.charAt(0) <= 'z';
        }

        boolean isNumber() {
            return text.charAt(0) >= '0' && text.charAt(0) <= '9';
        }
    }

    static final class World implements Cloneable {
        List<int[]> grottoes = new ArrayList<>(); // drip, phase, price, hollow
        int[] greed = new int[0];
        int[] sin = new int[0];
        int[] purse = new int[0];
        int[] silences = new int[0];
        int[] hired = new int[0];
        boolean[] drained = new boolean[8];
        int[] wet = {5};
        int bound = 70;
        int hour = 0;
        List<Token> prays = null;
        List<Token> costs = null;
        boolean[] silentNow = new boolean[6];

        World copy() {
            try {
                World w = (World) clone();
                w.greed = greed.clone();
                w.sin = sin.clone();
                w.purse = purse.clone();
                w.silences = silences.clone();
                w.hired = hired.clone();
                w.drained = drained.clone();
                w.silentNow = silentNow.clone();
                return w;
            } catch (CloneNotSupportedException e) {
                throw new AssertionError(e);
            }
        }

        int guilds() {
            return greed.length;
        }

        int wetNow() {
            return wet[hour % wet.length];
        }

        boolean drips(int grotto, int wetness) {
            int[] g = grottoes.get(grotto);
            return !drained[grotto] && wetness != 0 && (hour + g[1]) % g[0] == 0;
        }

        int holder(int grotto) {
            for (int i = 0; i < guilds(); i++) {
                if (hired[i] == grotto) {
                    return i;
                }
            }
            return NONE;
        }

        int rule(List<Token> rule, int guild, int wetness) {
            return new Eval(rule, this, guild, wetness).expr();
        }

        int cost(int guild, int wetness) {
            if (hired[guild] == NONE) {
                return 0;
            }
            int c = costs == null ? grottoes.get(hired[guild])[2] : rule(costs, guild, wetness);
            return c < 0 ? 0 : c > 50 ? 50 : c;
        }

        void hourBy(int wetness) {
            for (int g = 0; g < grottoes.size(); g++) {
                int guild = holder(g);
                if (guild != NONE && drips(g, wetness)) {
                    for (int i = 0; i <= grottoes.get(g)[3]; i++) {
                        int p = prays == null ? 5 : rule(prays, guild, wetness);
                        sin[guild] -= p < 0 ? 0 : p > sin[guild] ? sin[guild] : p;
                    }
                }
            }
            for (int i = 0; i < guilds(); i++) {
                purse[i] = purse[i] + 3 * greed[i] > 999 ? 999 : purse[i] + 3 * greed[i];
                sin[i] = sin[i] + greed[i] > 99 ? 99 : sin[i] + greed[i];
                if (hired[i] != NONE) {
                    int c = cost(i, wetness);
                    if (purse[i] >= c) {
                        purse[i] -= c;
                    } else {
                        hired[i] = NONE;
                    }
                }
                silentNow[i] = sin[i] > bound;
                if (silentNow[i]) {
                    purse[i] = purse[i] / 2;
                    silences[i] = silences[i] == 999 ? 999 : silences[i] + 1;
                }
            }
            hour++;
        }

        World after(int hours) {
            World w = copy();
            for (int i = 0; i < hours; i++) {
                w.hourBy(w.wetNow());
            }
            return w;
        }

        int dripBits() {
            int bits = 0;
            for (int g = 0; g < grottoes.size(); g++) {
                if (drips(g, wetNow())) {
                    bits += 1 << g;
                }
            }
            return bits;
        }

        int most(int[] of) {
            int best = NONE;
            for (int i = guilds() - 1; i >= 0; i--) {
                if (best == NONE || of[i] >= of[best]) {
                    best = i;
                }
            }
            return best;
        }
    }

    /** Works a rule out along its tokens. */
    static final class Eval {
        final List<Token> rule;
        final World w;
        final int guild;
        final int wetness;
        int at = 0;

        Eval(List<Token> rule, World w, int guild, int wetness) {
            this.rule = rule;
            this.w = w;
            this.guild = guild;
            this.wetness = wetness;
        }

        boolean take(String token) {
            if (at < rule.size() && rule.get(at).text.equals(token)) {
                at++;
                return true;
            }
            return false;
        }

        int expr() {
            int a = and();
            while (take("or")) {
                int b = and();
                a = a != 0 | b != 0 ? 1 : 0;
            }
            return a;
        }

        int and() {
            int a = not();
            while (take("and")) {
                int b = not();
                a = a != 0 & b != 0 ? 1 : 0;
            }
            return a;
        }

        int not() {
            if (take("not")) {
                return not() == 0 ? 1 : 0;
            }
            int a = sum();
            if (take("<")) {
                return a < sum() ? 1 : 0;
            }
            if (take("=")) {
                return a == sum() ? 1 : 0;
            }
            return a;
        }

        int sum() {
            int a = product();
            for (;;) {
                if (take("+")) {
                    a += product();
                } else if (take("-")) {
                    a -= product();
                } else {
                    return a;
                }
            }
        }

        int product() {
            int a = part();
            for (;;) {
                if (take("*")) {
                    a *= part();
                } else if (take("/")) {
                    int b = part();
                    a = b == 0 ? 0 : a / b;
                } else {
                    return a;
                }
            }
        }

        int part() {
            if (take("(")) {
                int a = expr();
                take(")");
                return a;
            }
            String t = rule.get(at++).text;
            int[] g = w.grottoes.get(w.hired[guild]);
            switch (t) {
                case "sin": return w.sin[guild];
                case "purse": return w.purse[guild];
                case "drip": return g[0];
                case "price": return g[2];
                case "wet": return wetness;
                case "hour": return w.hour;
                case "greed": return w.greed[guild];
                default: return Integer.parseInt(t);
            }
        }
    }

    static final class Fault extends RuntimeException {
        private static final long serialVersionUID = 1;
        final int kind;
        final int place;

        Fault(int kind, int place) {
            this.kind = kind;
            this.place = place;
        }
    }

    /** Reads a text with a pushdown of its own, token by token. */
    static final class Parse {
        final String text;
        final List<Token> tokens = new ArrayList<>();
        int at = 0;
        World w = new World();

        Parse(String text) {
            this.text = text;
            int i = 0;
            while (i < text.length()) {
                char c = text.charAt(i);
                int j = i + 1;
                if (c == ' ' || c == '\n') {
                    i = j;
                    continue;
                }
                while (j < text.length() && kind(c) < 2 && kind(text.charAt(j)) == kind(c)) {
                    j++;
                }
                Token t = new Token();
                t.text = text.substring(i, j);
                t.start = i;
                tokens.add(t);
                i = j;
            }
        }

        static int kind(char c) {
            return c >= 'a' && c <= 'z' ? 0 : c >= '0' && c <= '9' ? 1 : 2;
        }

        Fault fault(int kind) {
            return new Fault(kind, at < tokens.size() ? tokens.get(at).start : text.length());
        }

        boolean is(String t) {
            return at < tokens.size() && tokens.get(at).text.equals(t);
        }

        boolean isNumber() {
            return at < tokens.size() && tokens.get(at).isNumber();
        }

        boolean isWord() {
            return at < tokens.size() && tokens.get(at).isWord();
        }

        boolean isLong() {
            return tokens.get(at).text.length() > 4;
        }

        int number(int low, int high) {
            if (!isNumber()) {
                throw fault(1);
            }
            if (isLong()) {
                throw fault(2);
            }
            int n = Integer.parseInt(tokens.get(at).text);
            if (n < low || n > high) {
                throw fault(2);
            }
            at++;
            return n;
        }

        World port() {
            boolean wetTold = false;
            boolean boundTold = false;
            while (at < tokens.size()) {
                if (is("grotto") || is("hollow")) {
                    grotto(is("hollow") ? 1 : 0);
                } else if (is("guild")) {
                    guild();
                } else if (is("wet")) {
                    once(wetTold);
                    wetTold = true;
                    wet();
                } else if (is("bound")) {
                    once(boundTold);
                    boundTold = true;
                    w.bound = number(1, 99);
                } else if (is("prays")) {
                    once(w.prays != null);
                    w.prays = expr("sin purse drip price wet hour");
                } else if (is("costs")) {
                    once(w.costs != null);
                    w.costs = expr("sin purse drip price wet hour greed");
                } else {
                    throw fault(1);
                }
                if (!is(";")) {
                    throw fault(1);
                }
                at++;
            }
            return w;
        }

        void once(boolean told) {
            if (told) {
                throw fault(5);
            }
            at++;
        }

        void grotto(int hollow) {
            if (w.grottoes.size() == 8) {
                throw fault(2);
            }
            at++;
            w.grottoes.add(new int[] {number(1, 12), number(0, 11), number(0, 20), hollow});
        }

        static int[] plus(int[] row, int n) {
            int[] longer = Arrays.copyOf(row, row.length + 1);
            longer[row.length] = n;
            return longer;
        }

        void guild() {
            if (w.guilds() == 6) {
                throw fault(2);
            }
            at++;
            int greed = number(0, 9);
            int sin = number(0, 99);
            int purse = number(0, 999);
            int hired = NONE;
            if (is("hires")) {
                at++;
                hired = number(0, 9999);
                at--;
                if (hired >= w.grottoes.size()) {
                    throw fault(3);
                }
                if (w.holder(hired) != NONE) {
                    throw fault(4);
                }
                at++;
            }
            w.greed = plus(w.greed, greed);
            w.sin = plus(w.sin, sin);
            w.purse = plus(w.purse, purse);
            w.hired = plus(w.hired, hired);
            w.silences = plus(w.silences, 0);
        }

        void wet() {
            w.wet = new int[] {number(0, 9)};
            while (isNumber()) {
                if (w.wet.length == 8) {
                    throw fault(2);
                }
                w.wet = plus(w.wet, number(0, 9));
            }
        }

        /** Goes along an EXPR with flags alone: what may come next, and which tests are open around. */
        List<Token> expr(String values) {
            int from = at;
            int depth = 0;
            boolean[] tested = new boolean[8];
            boolean wantsPart = true;
            boolean isFirst = true;
            boolean notMayStand = true;
            int nots = 0;
            for (;; at++) {
                if (wantsPart) {
                    boolean canStand = isNumber() || isWord() || is("(");
                    if (!canStand) {
                        throw fault(1);
                    }
                    if (isFirst && depth == 6) {
                        throw fault(2);
                    }
                    isFirst = false;
                    if (is("not") && notMayStand) {
                        nots++;
                        if (nots == 7) {
                            throw fault(2);
                        }
                        continue;
                    }
                    nots = 0;
                    if (isNumber() && isLong()) {
                        throw fault(2);
                    }
                    if (isWord() && !Arrays.asList(values.split(" ")).contains(tokens.get(at).text)) {
                        throw fault(3);
                    }
                    if (is("(")) {
                        depth++;
                        tested[depth] = false;
                        isFirst = true;
                        notMayStand = true;
                    } else {
                        wantsPart = false;
                    }
                } else if (is("+") || is("-") || is("*") || is("/")) {
                    wantsPart = true;
                    notMayStand = false;
                } else if ((is("<") || is("=")) && !tested[depth]) {
                    tested[depth] = true;
                    wantsPart = true;
                    notMayStand = false;
                } else if (is("and") || is("or")) {
                    tested[depth] = false;
                    wantsPart = true;
                    notMayStand = true;
                } else if (is(")") && depth > 0) {
                    depth--;
                } else if (is(";") && depth == 0) {
                    return tokens.subList(from, at);
                } else {
                    throw fault(1);
                }
            }
        }
    }

    /** All that an image keeps; copies share what is never changed. */
    static final class All {
        World w = new World();
        List<World> acts = new ArrayList<>();
        List<int[]> seen = new ArrayList<>();
        int[] status = new int[3];

        All copy() {
            All a = new All();
            a.w = w.copy();
            a.acts = new ArrayList<>(acts);
            a.seen = new ArrayList<>(seen);
            a.status = status.clone();
            return a;
        }
    }

    All all = new All();
    All image = null;
    StringBuilder tape = new StringBuilder();
    int faultPlace = NONE;

    long feed(int[] n) {
        if (tape.length() + 20 > 700) {
            return NONE;
        }
        for (int x : n) {
            tape.append((char) (x >>> 24)).append((char) (x >> 16 & 255)).append((char) (x >> 8 & 255))
                .append((char) (x & 255));
        }
        return tape.length();
    }

    long port(int n) {
        if (n < 0 || n > tape.length()) {
            return IAE;
        }
        String text = tape.substring(0, n);
        tape.setLength(0);
        try {
            World w = new Parse(text).port();
            int[] status = all.status;
            all = new All();
            all.w = w;
            all.status = status;
            image = null;
            faultPlace = NONE;
            return 0;
        } catch (Fault f) {
            all.status[0]++;
            faultPlace = f.place;
            return f.kind;
        }
    }

    static int sum(int[] row) {
        int all = 0;
        for (int n : row) {
            all += n;
        }
        return all;
    }

    int hiredBits(World w) {
        int bits = 0;
        for (int h : w.hired) {
            bits |= h == NONE ? 0 : 1 << h;
        }
        return bits;
    }

    long count(int what) {
        World w = all.w;
        int drained = 0;
        for (int i = 0; i < 8; i++) {
            drained |= w.drained[i] ? 1 << i : 0;
        }
        int[] answers = {w.grottoes.size(), w.guilds(), w.hour, w.wetNow(), w.bound, hiredBits(w), drained,
            sum(w.purse), sum(w.sin), all.acts.size(), all.seen.size(), tape.length(),
            all.status[0], all.status[1], all.status[2]};
        return what < 0 || what >= answers.length ? NSE : answers[what];
    }

    boolean noGrotto(int g) {
        return g < 0 || g >= all.w.grottoes.size();
    }

    boolean noGuild(int g) {
        return g < 0 || g >= all.w.guilds();
    }

    static boolean not(int n, int low, int high) {
        return n < low || n > high;
    }

    long grotto(int g, int what) {
        if (noGrotto(g) || not(what, 0, 6)) {
            return NSE;
        }
        if (what < 4) {
            return all.w.grottoes.get(g)[what];
        }
        if (what == 4) {
            return all.w.drained[g] ? 1 : 0;
        }
        if (what == 5) {
            return all.w.holder(g);
        }
        for (int k = 1; k <= 60; k++) {
            if ((dripping(k) & 1 << g) != 0) {
                return k;
            }
        }
        return NONE;
    }

    long guild(int g, int what) {
        if (noGuild(g) || not(what, 0, 5)) {
            return NSE;
        }
        World w = all.w;
        return new int[] {w.greed[g], w.sin[g], w.purse[g], w.silences[g], w.hired[g], w.cost(g, w.wetNow())}[what];
    }

    World act() {
        all.acts.add(all.w);
        if (all.acts.size() > 40) {
            all.acts.remove(0);
        }
        all.w = all.w.copy();
        return all.w;
    }

    long refused(int kind, long answer) {
        all.status[kind]++;
        return answer;
    }

    long hours(int many) {
        if (not(many, 1, 20) || all.w.hour + many > 999) {
            return refused(1, NONE);
        }
        act();
        all.w = all.w.after(many);
        return all.w.hour;
    }

    long hire(int guild, int grotto) {
        if (noGuild(guild) || noGrotto(grotto)) {
            return NSE;
        }
        if (all.w.holder(grotto) != NONE) {
            return refused(1, 0);
        }
        act().hired[guild] = grotto;
        return 1;
    }

    long dismiss(int guild) {
        if (noGuild(guild)) {
            return NSE;
        }
        int had = all.w.hired[guild];
        if (had == NONE) {
            return refused(1, NONE);
        }
        act().hired[guild] = NONE;
        return had;
    }

    static void confessIn(World w, int guild) {
        w.purse[guild] -= 50;
        w.sin[guild] /= 2;
    }

    long confess(int guild) {
        if (noGuild(guild)) {
            return NSE;
        }
        if (all.w.purse[guild] < 50) {
            return refused(1, NONE);
        }
        confessIn(act(), guild);
        return all.w.sin[guild];
    }

    long drain(int grotto, boolean is) {
        if (noGrotto(grotto)) {
            return NSE;
        }
        if (all.w.drained[grotto] == is) {
            return refused(1, 0);
        }
        act().drained[grotto] = is;
        return 1;
    }

    long give(int guild, int much) {
        if (noGuild(guild)) {
            return NSE;
        }
        if (not(much, 1, 100)) {
            return refused(1, NONE);
        }
        World w = act();
        w.purse[guild] = w.purse[guild] + much > 999 ? 999 : w.purse[guild] + much;
        return w.purse[guild];
    }

    long undo() {
        if (all.acts.isEmpty()) {
            return NONE;
        }
        all.w = all.acts.remove(all.acts.size() - 1);
        return all.acts.size();
    }

    long then(int guild, int hours, int what) {
        if (noGuild(guild) || not(what, 0, 3)) {
            return NSE;
        }
        if (not(hours, 0, 60)) {
            return IAE;
        }
        World w = all.w.after(hours);
        return new int[] {w.sin[guild], w.purse[guild], w.silences[guild], w.hired[guild]}[what];
    }

    long dripping(int k) {
        return not(k, 1, 60) ? IAE : all.w.after(k - 1).dripBits();
    }

    long first(int guild) {
        if (noGuild(guild)) {
            return NSE;
        }
        for (int k = 1; k <= 60; k++) {
            if (all.w.after(k).silentNow[guild]) {
                return k;
            }
        }
        return NONE;
    }

    long dismissed(int guild) {
        if (noGuild(guild)) {
            return NSE;
        }
        for (int k = 1; k <= 60; k++) {
            if (all.w.after(k).hired[guild] != all.w.hired[guild]) {
                return k;
            }
        }
        return NONE;
    }

    long most(int hours, int what) {
        if (not(what, 0, 1)) {
            return NSE;
        }
        if (not(hours, 0, 60)) {
            return IAE;
        }
        World w = all.w.after(hours);
        return w.most(what == 0 ? w.purse : w.sin);
    }

    long hush(int hours) {
        if (not(hours, 1, 60)) {
            return IAE;
        }
        StringBuilder quiet = new StringBuilder();
        for (int k = 1; k <= hours; k++) {
            quiet.append(dripping(k) == 0 ? 'q' : ' ');
        }
        int longest = 0;
        for (String row : quiet.toString().split(" ")) {
            longest = Math.max(longest, row.length());
        }
        return longest;
    }

    long chorus(int hours) {
        if (not(hours, 1, 60)) {
            return IAE;
        }
        for (int many = 8; many >= 0; many--) {
            for (int k = 1; k <= hours; k++) {
                if (Long.bitCount(dripping(k)) == many) {
                    return k;
                }
            }
        }
        throw new AssertionError();
    }

    boolean notGrottoes(int some) {
        return some < 0 || some >> all.w.grottoes.size() != 0;
    }

    long together(int some) {
        if (notGrottoes(some)) {
            return IAE;
        }
        for (int k = 1; k <= 30000; k++) {
            boolean is = true;
            for (int g = 0; g < all.w.grottoes.size(); g++) {
                int[] x = all.w.grottoes.get(g);
                is &= (some >> g & 1) == 0 || (all.w.hour + k - 1 + x[1]) % x[0] == 0;
            }
            if (is) {
                return k;
            }
        }
        return NONE;
    }

    long rhythm(int some) {
        if (notGrottoes(some)) {
            return IAE;
        }
        for (int n = 1;; n++) {
            boolean is = true;
            for (int g = 0; g < all.w.grottoes.size(); g++) {
                is &= (some >> g & 1) == 0 || n % all.w.grottoes.get(g)[0] == 0;
            }
            if (is) {
                return n;
            }
        }
    }

    long often(int grotto, int hours) {
        if (noGrotto(grotto)) {
            return NSE;
        }
        if (not(hours, 0, 60)) {
            return IAE;
        }
        int many = 0;
        for (int k = 1; k <= hours; k++) {
            many += dripping(k) >> grotto & 1;
        }
        return many;
    }

    long toHire(int guild, int hours, int what) {
        if (noGuild(guild) || not(what, 0, 1)) {
            return NSE;
        }
        if (not(hours, 1, 60)) {
            return IAE;
        }
        int best = NONE;
        int sin = NONE;
        for (int g = all.w.grottoes.size() - 1; g >= 0; g--) {
            if (all.w.holder(g) == NONE || all.w.holder(g) == guild) {
                World w = all.w.copy();
                w.hired[guild] = g;
                w = w.after(hours);
                if (best == NONE || w.sin[guild] <= sin) {
                    best = g;
                    sin = w.sin[guild];
                }
            }
        }
        return what == 0 ? best : sin;
    }

    int sharedMany;
    int sharedMuch;
    int[] sharedRow;

    /** Goes through all rows in their order (none behind all), and keeps the first of the best. */
    void share(int guild, int[] row) {
        if (guild == all.w.guilds()) {
            int many = 0;
            int much = 0;
            for (int g : row) {
                many += g == NONE ? 0 : 1;
                much += g == NONE ? 0 : all.w.grottoes.get(g)[2];
            }
            if (sharedRow == null || many > sharedMany || many == sharedMany && much < sharedMuch) {
                sharedMany = many;
                sharedMuch = much;
                sharedRow = row.clone();
            }
            return;
        }
        for (int g = 0; g < all.w.grottoes.size(); g++) {
            boolean free = all.w.purse[guild] >= 10 * all.w.grottoes.get(g)[2];
            for (int i = 0; i < guild; i++) {
                free &= row[i] != g;
            }
            if (free) {
                row[guild] = g;
                share(guild + 1, row);
            }
        }
        row[guild] = NONE;
        share(guild + 1, row);
    }

    long shared(int what) {
        if (not(what, 0, 1)) {
            return NSE;
        }
        sharedRow = null;
        share(0, new int[all.w.guilds()]);
        return what == 0 ? sharedMany : sharedMuch;
    }

    long has(int guild) {
        if (noGuild(guild)) {
            return NSE;
        }
        shared(0);
        return sharedRow[guild];
    }

    long toGive(int guild, int hours) {
        if (noGuild(guild)) {
            return NSE;
        }
        if (not(hours, 1, 60)) {
            return IAE;
        }
        for (int p = 0; p <= 999 && all.w.hired[guild] != NONE; p++) {
            World w = all.w.copy();
            w.purse[guild] = p;
            if (w.after(hours).hired[guild] != NONE) {
                return p;
            }
        }
        return NONE;
    }

    long confessing(int guild, int hours) {
        if (noGuild(guild)) {
            return NSE;
        }
        if (not(hours, 0, 60)) {
            return IAE;
        }
        if (all.w.purse[guild] < 50) {
            return 0;
        }
        World w = all.w.copy();
        confessIn(w, guild);
        return all.w.after(hours).sin[guild] - w.after(hours).sin[guild];
    }

    long see(int guild, int hours, int sin) {
        if (noGuild(guild)) {
            return NSE;
        }
        if (all.seen.size() == 8 || not(hours, 0, 20) || not(sin, 0, 99)) {
            return refused(2, NONE);
        }
        all.seen.add(new int[] {guild, hours, sin});
        return all.seen.size();
    }

    boolean suits(World w) {
        for (int[] s : all.seen) {
            if (w.after(s[1]).sin[s[0]] != s[2]) {
                return false;
            }
        }
        return true;
    }

    List<World> guesses() {
        List<World> some = new ArrayList<>();
        for (int g = 0; g < all.w.guilds(); g++) {
            for (int r = 0; r <= 9; r++) {
                World w = all.w.copy();
                w.greed[g] = r;
                if (r != all.w.greed[g] && suits(w)) {
                    some.add(w);
                }
            }
        }
        return some;
    }

    long greedy(int what) {
        if (not(what, 0, 2)) {
            return NSE;
        }
        if (what == 2) {
            return suits(all.w) ? 1 : 0;
        }
        List<World> some = guesses();
        if (what == 0) {
            return some.size();
        }
        for (int g = 0; g < all.w.guilds() && !some.isEmpty(); g++) {
            if (some.get(0).greed[g] != all.w.greed[g]) {
                return 10 * g + some.get(0).greed[g];
            }
        }
        return NONE;
    }

    long look(int what) {
        if (not(what, 0, 1)) {
            return NSE;
        }
        List<World> some = guesses();
        int best = NONE;
        int bestMany = 0;
        for (int k = 1; k <= 20; k++) {
            boolean[] is = new boolean[6];
            int many = 0;
            for (World w : some) {
                World later = w.after(k);
                int worst = later.most(later.sin);
                many += is[worst] ? 0 : 1;
                is[worst] = true;
            }
            if (many > bestMany) {
                best = k;
                bestMany = many;
            }
        }
        return what == 0 ? best : bestMany;
    }

    int likely(World w, int guild, int hours, int tenths, boolean isSilent) {
        if (hours == 0) {
            return isSilent ? 1 : 0;
        }
        World dry = w.copy();
        dry.hourBy(0);
        World wet = w.copy();
        wet.hourBy(9);
        return tenths * likely(dry, guild, hours - 1, tenths, isSilent || dry.silentNow[guild])
            + (10 - tenths) * likely(wet, guild, hours - 1, tenths, isSilent || wet.silentNow[guild]);
    }

    long drought(int guild, int hours, int tenths) {
        if (noGuild(guild)) {
            return NSE;
        }
        if (not(hours, 1, 5) || not(tenths, 0, 10)) {
            return IAE;
        }
        return likely(all.w, guild, hours, tenths, false);
    }

    /** What both gain, if they choose so; null where one can't. */
    int[] gains(int a, int b, int x, int y) {
        if (x == 1 && all.w.purse[a] < 50 || y == 1 && all.w.purse[b] < 50) {
            return null;
        }
        World w = all.w.copy();
        if (x == 1) {
            confessIn(w, a);
        }
        if (y == 1) {
            confessIn(w, b);
        }
        int[] gains = {-6 * x, -6 * y};
        for (int i = 0; i < 8; i++) {
            w.hourBy(w.wetNow());
            boolean isQuietA = !w.silentNow[a];
            boolean isQuietB = !w.silentNow[b];
            gains[0] += (isQuietA ? 5 : 0) - (isQuietB ? 3 : 0);
            gains[1] += (isQuietB ? 5 : 0) - (isQuietA ? 3 : 0);
        }
        return gains;
    }

    long game(int a, int b, int what) {
        if (noGuild(a) || noGuild(b) || not(what, 0, 1)) {
            return NSE;
        }
        if (a == b) {
            return IAE;
        }
        int many = 0;
        int first = NONE;
        for (int xy : new int[] {11, 10, 1, 0}) {
            int x = xy / 10;
            int y = xy % 10;
            int[] is = gains(a, b, x, y);
            int[] ifA = gains(a, b, 1 - x, y);
            int[] ifB = gains(a, b, x, 1 - y);
            if (is != null && (ifA == null || ifA[0] <= is[0]) && (ifB == null || ifB[1] <= is[1])) {
                many++;
                first = xy;
            }
        }
        return what == 0 ? many : first;
    }

    int seed;

    int draw(int n) {
        seed = seed * 1103515245 + 12345;
        return (seed >> 16 & 0x7fff) % n;
    }

    long years(int seedOfCall, int n, int what) {
        if (not(what, 0, 2)) {
            return NSE;
        }
        if (not(n, 0, 60)) {
            return IAE;
        }
        seed = seedOfCall;
        World w = all.w.copy();
        int silences = 0;
        for (int i = 0; i < n; i++) {
            int event = draw(7);
            if (w.guilds() > 0 && w.grottoes.size() > 0) {
                if (event == 0) {
                    int guild = draw(w.guilds());
                    int grotto = draw(w.grottoes.size());
                    if (w.holder(grotto) == NONE) {
                        w.hired[guild] = grotto;
                    }
                }
                if (event == 1) {
                    int grotto = draw(w.grottoes.size());
                    w.drained[grotto] = !w.drained[grotto];
                }
                if (event == 2) {
                    int guild = draw(w.guilds());
                    w.purse[guild] = Math.min(999, w.purse[guild] + 20);
                }
            }
            w.hourBy(draw(4));
            for (int g = 0; g < w.guilds(); g++) {
                silences += w.silentNow[g] ? 1 : 0;
            }
        }
        return what == 0 ? silences : what == 1 ? sum(w.purse) : Integer.bitCount(hiredBits(w));
    }

    void image() {
        image = all.copy();
    }

    long restore() {
        if (image != null) {
            all = image.copy();
        }
        return image == null ? 0 : 1;
    }
}
