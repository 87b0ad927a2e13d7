import java.util.Random;

/** Random runs of calls, each answer compared with that of the plain model. */
public final class ModelTest {
    private static final int RUNS = 400;
    private static final int CALLS = 200;
    // An object is used for at most 512 calls; a kind of call makes some 90 of them at most.
    private static final int MOST_CALLS_OF_AN_OBJECT = 512 - 90;
    private static final int TEXTS = 40000;

    public static void main(String[] args) {
        compareTexts();
        for (int run = 0; run < RUNS && Check.wrong() < 20; run++) {
            new ModelTest(run).run();
        }
        Check.end();
    }

    private static void compareTexts() {
        RandomTexts texts = new RandomTexts(new Random(77));
        for (int i = 0; i < TEXTS && Check.wrong() < 20; i++) {
            String text = texts.any();
            if (text.length() <= 700) {
                GrottoHours x = new GrottoHours();
                Model m = new Model();
                m.tape.append(text);
                Check.same("port of " + text, m.port(text.length()), Texts.port(x, text));
                Check.same("fault() of " + text, m.faultPlace, x.fault());
            }
        }
    }

    private final int run;
    private final Random random;
    private final GrottoHours x = new GrottoHours();
    private final Model m = new Model();
    private int calls = 0;

    private ModelTest(int run) {
        this.run = run;
        random = new Random(run);
    }

    private void feed(String text) {
        for (int at = 0; at < text.length(); at += 20) {
            int[] n = new int[5];
            for (int i = 0; i < 20; i++) {
                n[i / 4] = n[i / 4] << 8 | (at + i < text.length() ? text.charAt(at + i) : ' ');
            }
            compare("feed", m.feed(n), () -> x.feed(n[0], n[1], n[2], n[3], n[4]));
        }
    }

    private void port(String text) {
        feed(text);
        int n = random.nextInt(12) == 0 ? random.nextInt(720) - 10 : text.length();
        compare("port(" + n + ") of " + text, m.port(n), () -> x.port(n));
        compare("fault()", m.faultPlace, () -> x.fault());
    }

    private void compare(String call, long want, Check.Call got) {
        calls++;
        Check.same("run " + run + ": " + call, want, got);
    }

    private int from(int low, int high) {
        if (random.nextInt(150) == 0) {
            return random.nextInt(3) == 0 ? random.nextInt() : random.nextBoolean() ? Integer.MIN_VALUE : Integer.MAX_VALUE;
        }
        return low + random.nextInt(high - low + 1);
    }

    private void run() {
        RandomTexts texts = new RandomTexts(random);
        String text = texts.right();
        if (text.length() <= 700) {
            port(text);
        }
        if (run % 8 == 0) {
            goToALateHour();
        }
        for (int i = 0; i < CALLS && calls < MOST_CALLS_OF_AN_OBJECT; i++) {
            int kind = random.nextInt(200);
            if (kind == 0) {
                port(texts.any());
            } else if (kind < 60) {
                act();
            } else if (kind < 110) {
                fact();
            } else if (kind < 150) {
                ahead();
            } else if (kind < 180) {
                best();
            } else {
                chance();
            }
            if (i % 20 == 19) {
                allFacts();
            }
        }
    }

    /** Some way behind HOUR 900, where hours are refused by and by, and forecasts go past 999. */
    private void goToALateHour() {
        for (int i = random.nextInt(5); i < 50; i++) {
            compare("hours(20)", m.hours(20), () -> x.hours(20));
        }
        compare("hours(19)", m.hours(19), () -> x.hours(19));
    }

    private void allFacts() {
        for (int i = 0; i < 15; i++) {
            int what = i;
            compare("count(" + i + ")", m.count(what), () -> x.count(what));
        }
        for (int i = 0; i < 6; i++) {
            for (int j = 0; j < 6; j++) {
                int guild = i;
                int what = j;
                compare("guild(" + i + ", " + j + ")", m.guild(guild, what), () -> x.guild(guild, what));
            }
        }
    }

    private void act() {
        int guild = from(0, 5);
        int grotto = from(0, 7);
        int many = random.nextInt(8) == 0 ? from(-1, 22) : random.nextInt(4) == 0 ? from(1, 20) : from(1, 3);
        int much = random.nextInt(4) == 0 ? from(-1, 102) : from(1, 100);
        boolean is = random.nextInt(3) != 0;
        switch (random.nextInt(8)) {
            case 0:
            case 1: compare("hours(" + many + ")", m.hours(many), () -> x.hours(many)); break;
            case 2: compare("hire(" + guild + ", " + grotto + ")", m.hire(guild, grotto),
                () -> Check.bit(x.hire(guild, grotto))); break;
            case 3: compare("dismiss(" + guild + ")", m.dismiss(guild), () -> x.dismiss(guild)); break;
            case 4: compare("confess(" + guild + ")", m.confess(guild), () -> x.confess(guild)); break;
            case 5: compare("drain(" + grotto + ", " + is + ")", m.drain(grotto, is),
                () -> Check.bit(x.drain(grotto, is))); break;
            case 6: compare("give(" + guild + ", " + much + ")", m.give(guild, much), () -> x.give(guild, much)); break;
            default: rare();
        }
    }

    private void rare() {
        switch (random.nextInt(8)) {
            case 0:
                m.image();
                x.image();
                break;
            case 1: compare("restore()", m.restore(), () -> Check.bit(x.restore())); break;
            case 2:
                m.all.seen.clear();
                x.forget();
                break;
            default: compare("undo()", m.undo(), () -> x.undo());
        }
    }

    private void fact() {
        int guild = from(-1, 6);
        int grotto = from(-1, 8);
        int what = from(-1, 7);
        int some = random.nextInt(6) == 0 ? from(-1, 260) : from(0, 255) & (1 << m.all.w.grottoes.size()) - 1;
        int hours = from(-1, 61);
        switch (random.nextInt(8)) {
            case 0: compare("count(" + (what * 2) + ")", m.count(what * 2), () -> x.count(what * 2)); break;
            case 1:
            case 2: compare("grotto(" + grotto + ", " + what + ")", m.grotto(grotto, what),
                () -> x.grotto(grotto, what)); break;
            case 3: compare("guild(" + guild + ", " + what + ")", m.guild(guild, what), () -> x.guild(guild, what)); break;
            case 4: compare("together(" + some + ")", m.together(some), () -> x.together(some)); break;
            case 5: compare("rhythm(" + some + ")", m.rhythm(some), () -> x.rhythm(some)); break;
            case 6: compare("often(" + grotto + ", " + hours + ")", m.often(grotto, hours),
                () -> x.often(grotto, hours)); break;
            default: compare("dripping(" + hours + ")", m.dripping(hours), () -> x.dripping(hours));
        }
    }

    private void ahead() {
        int guild = from(-1, 6);
        int what = from(-1, 4);
        int hours = from(-1, 61);
        switch (random.nextInt(8)) {
            case 0:
            case 1: compare("then(" + guild + ", " + hours + ", " + what + ")", m.then(guild, hours, what),
                () -> x.then(guild, hours, what)); break;
            case 2: compare("first(" + guild + ")", m.first(guild), () -> x.first(guild)); break;
            case 3: compare("dismissed(" + guild + ")", m.dismissed(guild), () -> x.dismissed(guild)); break;
            case 4: compare("most(" + hours + ", " + what + ")", m.most(hours, what), () -> x.most(hours, what)); break;
            case 5: compare("hush(" + hours + ")", m.hush(hours), () -> x.hush(hours)); break;
            case 6: compare("chorus(" + hours + ")", m.chorus(hours), () -> x.chorus(hours)); break;
            default: compare("confessing(" + guild + ", " + hours + ")", m.confessing(guild, hours),
                () -> x.confessing(guild, hours));
        }
    }

    private void best() {
        int guild = from(-1, 6);
        int what = from(-1, 3);
        int hours = random.nextInt(3) == 0 ? from(-1, 61) : from(1, 20);
        switch (random.nextInt(8)) {
            case 0:
            case 1: compare("toHire(" + guild + ", " + hours + ", " + what + ")", m.toHire(guild, hours, what),
                () -> x.toHire(guild, hours, what)); break;
            case 2: compare("shared(" + what + ")", m.shared(what), () -> x.shared(what)); break;
            case 3:
            case 4: compare("has(" + guild + ")", m.has(guild), () -> x.has(guild)); break;
            case 5: compare("toGive(" + guild + ", " + hours + ")", m.toGive(guild, hours),
                () -> x.toGive(guild, hours)); break;
            default: guess(guild, what);
        }
    }

    private void guess(int guild, int what) {
        int hours = from(-1, 21);
        // Mostly what a changed GREED would show, so that some guess suits.
        int sin = from(-1, 101);
        if (guild >= 0 && guild < m.all.w.guilds() && hours >= 0 && hours <= 20 && random.nextInt(5) != 0) {
            Model.World w = m.all.w.copy();
            int greedy = (m.all.w.hour / 5 + run) % m.all.w.guilds();
            w.greed[greedy] = run % 10;
            sin = w.after(hours).sin[guild];
        }
        int seen = sin;
        compare("see(" + guild + ", " + hours + ", " + seen + ")", m.see(guild, hours, seen),
            () -> x.see(guild, hours, seen));
        compare("greedy(" + what + ")", m.greedy(what), () -> x.greedy(what));
        compare("look(" + what + ")", m.look(what), () -> x.look(what));
    }

    private void chance() {
        int guild = from(-1, 6);
        int other = from(-1, 6);
        int what = from(-1, 3);
        int tenths = from(-1, 11);
        int hours = from(0, 6);
        int n = from(-1, 61);
        int seed = random.nextInt();
        switch (random.nextInt(4)) {
            case 0: compare("drought(" + guild + ", " + hours + ", " + tenths + ")", m.drought(guild, hours, tenths),
                () -> x.drought(guild, hours, tenths)); break;
            case 1: compare("game(" + guild + ", " + other + ", " + what + ")", m.game(guild, other, what),
                () -> x.game(guild, other, what)); break;
            default: compare("years(" + seed + ", " + n + ", " + what + ")", m.years(seed, n, what),
                () -> x.years(seed, n, what));
        }
    }
}
