import java.util.SplittableRandom;

/**
 * Makes the same calls, drawn from a fixed seed, of GuildSeals and of PlainSeals, and compares the
 * answers and, at the end, all that can be asked for. An exception counts by its very class, so that
 * one that the machine throws shows as well.
 */
public final class TwinTest {
    private static final int RUNS = 3000;
    // The document promises nothing after 512 calls; a step takes at most 61, the portrait the rest.
    private static final int MOST_CALLS = 512;
    private static final int CALLS_BEFORE_THE_LAST_STEP = 150;
    private static final int[] ODD = {Integer.MIN_VALUE, Integer.MAX_VALUE, -1, 6, 7, 8, 9, -51, 51, 25};
    private static final String SIGNS = "naqdtfwsrih0123456789.=+-<; x\u00e9\u20ac\u0000";

    private interface Call {
        Object make();
    }

    private final SplittableRandom random;
    private final GuildSeals seals = new GuildSeals();
    private final PlainSeals plain = new PlainSeals();
    private final StringBuilder told = new StringBuilder();
    private boolean isSame = true;
    private int calls = 0;

    private TwinTest(long seed) {
        random = new SplittableRandom(seed);
    }

    public static void main(String[] args) {
        for (int run = 0; run < RUNS; run++) {
            TwinTest twins = new TwinTest(run);
            if (!twins.areSame()) {
                System.out.println("run " + run + ":" + twins.told);
                System.exit(1);
            }
        }
        System.out.println(RUNS + " runs, all the same");
    }

    private boolean areSame() {
        int due = random.nextInt(CALLS_BEFORE_THE_LAST_STEP);
        while (isSame && calls < due) {
            step();
        }
        comparePortraits();
        if (calls > MOST_CALLS) {
            throw new IllegalStateException("more calls than the document allows");
        }
        return isSame;
    }

    private static String answerOf(Call call) {
        try {
            return String.valueOf(call.make());
        } catch (RuntimeException e) {
            return "throws " + e.getClass().getName();
        }
    }

    private void compare(String call, Call one, Call other) {
        calls++;
        String got = answerOf(one);
        String due = answerOf(other);
        if (!got.equals(due)) {
            isSame = false;
            told.append("\n").append(call).append(" -> ").append(got).append(", due is ").append(due);
        }
    }

    private void tell(String call) {
        told.append("\n").append(call);
    }

    private int below(int bound) {
        return random.nextInt(40) == 0 ? ODD[random.nextInt(ODD.length)] : random.nextInt(bound);
    }

    private void step() {
        if (random.nextInt(2) == 0) {
            goOn(random.nextInt(plain.account(0) + 1));
        } else {
            any();
        }
    }

    /** What a herald in earnest would do next about a matter, so that many are sealed. */
    private void goOn(int m) {
        if (!plain.isAwake() && random.nextInt(4) == 0) {
            both("wake", () -> seals.wake(), () -> plain.wake());
        }
        if (m >= plain.account(0)) {
            both("matter()", () -> seals.matter(), () -> plain.matter());
        } else if (plain.matterOf(m, 0) != 0) {
            spread(m);
        } else if (plain.matterOf(m, 2) == 0 && random.nextInt(plain.matterOf(m, 1) + 2) < 2) {
            set(m, random.nextInt(6));
        } else if (plain.matterOf(m, 2) < plain.matterOf(m, 1)) {
            int g = guildWith(m, 0);
            both("ask " + m + " " + g, () -> seals.ask(m, g), () -> plain.ask(m, g));
        } else {
            both("decide " + m, () -> seals.decide(m), () -> plain.decide(m));
        }
    }

    private void spread(int m) {
        int g = guildWith(m, 1);
        int o = guildWith(m, random.nextInt(5));
        if (random.nextInt(3) == 0) {
            both("tell " + m + " " + g, () -> seals.tell(m, g), () -> plain.tell(m, g));
        } else {
            both("inquire " + m + " " + g + " " + o,
                    () -> seals.inquire(m, g, o), () -> plain.inquire(m, g, o));
        }
    }

    private int guildWith(int m, int answer) {
        int first = random.nextInt(6);
        for (int i = 0; i < 6; i++) {
            if (plain.answer(m, (first + i) % 6) == answer) {
                return (first + i) % 6;
            }
        }
        return first;
    }

    private void any() {
        int m = random.nextInt(3) == 0 ? below(9) : below(3);
        int g = below(6);
        int o = below(6);
        switch (random.nextInt(38)) {
            case 32, 33, 34, 35, 36, 37 -> question(m, g);
            case 30 -> undoMany();
            case 31 -> both("restore", () -> seals.restore(), () -> plain.restore());
            case 0 -> both("matter()", () -> seals.matter(), () -> plain.matter());
            case 1, 2, 3, 4 -> set(m, g);
            case 5 -> saveWithFewMatters();
            case 6, 7, 8, 9, 10 -> both("ask " + m + " " + g, () -> seals.ask(m, g), () -> plain.ask(m, g));
            case 11, 12 -> both("decide " + m, () -> seals.decide(m), () -> plain.decide(m));
            case 13, 14, 15 -> both("tell " + m + " " + g, () -> seals.tell(m, g), () -> plain.tell(m, g));
            case 16 -> rarelyFaint();
            case 17, 18 -> both("wake", () -> seals.wake(), () -> plain.wake());
            case 19 -> both("sleep " + g, () -> seals.sleep(g), () -> plain.sleep(g));
            case 20, 21 -> both("rouse " + g, () -> seals.rouse(g), () -> plain.rouse(g));
            case 22, 23, 24 -> both("inquire " + m + " " + g + " " + o,
                    () -> seals.inquire(m, g, o), () -> plain.inquire(m, g, o));
            case 25 -> pass();
            case 26 -> both("line " + m, () -> seals.line(m), () -> plain.line(m));
            case 27, 28 -> text();
            default -> rarely();
        }
    }

    private void both(String call, Call one, Call other) {
        tell(call);
        compare(call, one, other);
    }

    private void set(int m, int g) {
        int a = random.nextInt(3) == 0 ? below(109) - 54 : below(11) - 5;
        both("set " + m + " " + g + " " + a, () -> seals.set(m, g, a), () -> plain.set(m, g, a));
    }

    private void rarelyFaint() {
        if (random.nextInt(2) == 0) {
            both("faint", () -> seals.faint(), () -> plain.faint());
        }
    }

    private void pass() {
        int hours = below(28) - 1;
        both("pass " + hours, () -> seals.pass(hours), () -> plain.pass(hours));
    }

    private void rarely() {
        switch (random.nextInt(8)) {
            case 0, 1, 2 -> both("undo", () -> seals.undo(), () -> plain.undo());
            case 3 -> saveWithFewMatters();
            case 4 -> both("restore", () -> seals.restore(), () -> plain.restore());
            case 5 -> append(SIGNS.charAt(random.nextInt(SIGNS.length())));
            case 6 -> both("run", () -> seals.run(), () -> plain.run());
            default -> undoMany();
        }
    }

    // A full snapshot would leave little to do after each restore.
    private void saveWithFewMatters() {
        if (plain.account(0) < 6) {
            both("save", () -> seals.save(), () -> plain.save());
        }
    }

    private void undoMany() {
        for (int i = random.nextInt(10); i > 0 && isSame; i--) {
            both("undo", () -> seals.undo(), () -> plain.undo());
        }
    }

    private void append(char c) {
        both("append " + (int) c, () -> seals.append(c), () -> plain.append(c));
    }

    /** Mostly a text without an error, sometimes one with a character put in, taken out or changed. */
    private void text() {
        StringBuilder text = new StringBuilder();
        int orders = 1 + random.nextInt(random.nextInt(6) == 0 ? 32 : 6);
        for (int i = 0; i < orders; i++) {
            text.append(i == 0 ? "" : ";").append(order());
        }
        if (random.nextInt(3) == 0) {
            int place = random.nextInt(text.length() + 1);
            int end = Math.min(text.length(), place + random.nextInt(2));
            char c = SIGNS.charAt(random.nextInt(SIGNS.length()));
            text.replace(place, end, random.nextBoolean() ? "" : String.valueOf(c));
        }
        for (int i = 0; i < text.length() && i < 61 && isSame; i++) {
            append(text.charAt(i));
        }
        both("run", () -> seals.run(), () -> plain.run());
    }

    private String order() {
        int m = random.nextInt(20) == 0 ? random.nextInt(10) : random.nextInt(3);
        int g = random.nextInt(30) == 0 ? 6 : random.nextInt(6);
        int o = random.nextInt(30) == 0 ? 9 : random.nextInt(6);
        String amount = (random.nextBoolean() ? "+" : "-") + number(random.nextInt(20) == 0 ? 60 : 12);
        return switch (random.nextInt(16)) {
            case 0, 1, 2 -> "n";
            case 3, 4, 5 -> "a" + m + "." + g + "=" + amount;
            case 6, 7 -> "q" + m + "." + g;
            case 8 -> "d" + m;
            case 9 -> "t" + m + "." + g;
            case 10 -> "f";
            case 11 -> "w";
            case 12 -> "s" + g;
            case 13 -> "r" + g;
            case 14 -> "i" + m + "." + g + "<" + o;
            default -> "h" + number(random.nextInt(8) == 0 ? 30 : 24);
        };
    }

    private String number(int bound) {
        int number = random.nextInt(bound);
        return number < 10 && random.nextBoolean() ? "0" + number : String.valueOf(number);
    }

    /** With numbers that are out of range at times. */
    private void question(int m, int g) {
        int n = below(14) - 1;
        boolean b = random.nextBoolean();
        switch (random.nextInt(12)) {
            case 0 -> both("matterOf " + m + " " + n, () -> seals.matterOf(m, n), () -> plain.matterOf(m, n));
            case 1 -> both("answer " + m + " " + n, () -> seals.answer(m, n), () -> plain.answer(m, n));
            case 2 -> both("amount " + m + " " + n, () -> seals.amount(m, n), () -> plain.amount(m, n));
            case 3 -> both("guildOf " + g + " " + n, () -> seals.guildOf(g, n), () -> plain.guildOf(g, n));
            case 4 -> both("canLearn " + g, () -> seals.canLearn(g, b), () -> plain.canLearn(g, b));
            case 5 -> both("ranked " + n, () -> seals.ranked(n), () -> plain.ranked(n));
            case 6 -> both("account " + n, () -> seals.account(n), () -> plain.account(n));
            case 7 -> both("book " + n, () -> seals.book(n), () -> plain.book(n));
            case 8 -> both("wouldSeal " + m, () -> seals.wouldSeal(m), () -> plain.wouldSeal(m));
            case 9 -> both("character " + n, () -> seals.character(n), () -> plain.character(n));
            case 10 -> both("refusal " + b, () -> seals.refusal(b), () -> plain.refusal(b));
            default -> both("errorPosition", () -> seals.errorPosition(), () -> plain.errorPosition());
        }
    }

    private void comparePortraits() {
        compareMatters();
        compareGuilds();
        for (int i = 0; i < 13; i++) {
            int what = i;
            compare("account " + i, () -> seals.account(what), () -> plain.account(what));
        }
        for (int i = 0; i < plain.account(2) + plain.account(3) + 1; i++) {
            int place = i;
            compare("book " + i, () -> seals.book(place), () -> plain.book(place));
        }
        compare("isAwake", () -> seals.isAwake(), () -> plain.isAwake());
        compare("isWell", () -> seals.isWell(), () -> plain.isWell());
        compare("meanDoubt", () -> seals.meanDoubt(), () -> plain.meanDoubt());
        compare("sealedShare", () -> seals.sealedShare(), () -> plain.sealedShare());
        compare("errorPosition", () -> seals.errorPosition(), () -> plain.errorPosition());
        for (boolean b : new boolean[] {false, true}) {
            compare("refusal " + b, () -> seals.refusal(b), () -> plain.refusal(b));
            compare("coins " + b, () -> seals.coins(b), () -> plain.coins(b));
        }
        for (int i = 0; i < 40; i++) {
            int index = i;
            compare("character " + i, () -> seals.character(index), () -> plain.character(index));
        }
    }

    private void compareMatters() {
        for (int i = 0; i < plain.account(0); i++) {
            int m = i;
            for (int j = 0; j < 8; j++) {
                int what = j;
                compare("matterOf " + i + " " + j, () -> seals.matterOf(m, what), () -> plain.matterOf(m, what));
            }
            for (int j = 0; j < 6; j++) {
                int g = j;
                compare("answer " + i + " " + j, () -> seals.answer(m, g), () -> plain.answer(m, g));
                compare("amount " + i + " " + j, () -> seals.amount(m, g), () -> plain.amount(m, g));
            }
            compare("wouldSeal " + i, () -> seals.wouldSeal(m), () -> plain.wouldSeal(m));
        }
    }

    private void compareGuilds() {
        for (int i = 0; i < 6; i++) {
            int g = i;
            for (int j = 0; j < 6; j++) {
                int what = j;
                compare("guildOf " + i + " " + j, () -> seals.guildOf(g, what), () -> plain.guildOf(g, what));
            }
            compare("canLearn " + i, () -> seals.canLearn(g, false), () -> plain.canLearn(g, false));
            compare("canLearn again " + i, () -> seals.canLearn(g, true), () -> plain.canLearn(g, true));
            compare("ranked " + i, () -> seals.ranked(g), () -> plain.ranked(g));
        }
    }
}
