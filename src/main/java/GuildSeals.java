import java.util.NoSuchElementException;

/** Matters that guilds seal together or not at all; shared/DOC.md tells what each method promises. */
public final class GuildSeals {
    private static final int GUILDS = 6;
    private static final int COINS_AT_FIRST = 20;
    private static final int MOST_MATTERS = 8;
    private static final int MOST_AMOUNT = 50;
    private static final int MOST_HOURS = 24;
    private static final int MOST_CHANGES = 8;
    private static final int MOST_CHARACTERS = 60;
    // An order takes at least one character, and a semicolon stands between two.
    private static final int MOST_ORDERS = 30;
    // "#", the number, how it is, and six characters for each guild.
    private static final int LONGEST_LINE = 39;

    private static final int LAST_NUMBER_OF_MATTER = 7;
    private static final int LAST_NUMBER_OF_GUILD = 5;
    private static final int LAST_ACCOUNT = 12;

    private static final int OPEN = 0;
    private static final int SEALED = 1;
    private static final int BROKEN = 2;

    private static final int NOT_ASKED = 0;
    private static final int READY = 1;
    private static final int UNWILLING = 2;
    private static final int HAS_SEALED = 3;
    private static final int HAS_BROKEN = 4;

    private static final int NONE = -1;

    private static final int ORDER_MATTER = 'n';
    private static final int ORDER_SET = 'a';
    private static final int ORDER_ASK = 'q';
    private static final int ORDER_DECIDE = 'd';
    private static final int ORDER_TELL = 't';
    private static final int ORDER_FAINT = 'f';
    private static final int ORDER_WAKE = 'w';
    private static final int ORDER_SLEEP = 's';
    private static final int ORDER_ROUSE = 'r';
    private static final int ORDER_INQUIRE = 'i';
    private static final int ORDER_PASS = 'h';
    private static final String ORDER_LETTERS = "naqdtfwsrih";

    private static final int DONE = 0;
    private static final int REFUSED = 1;
    private static final int WRONG = 2;

    private final Council council;
    private final Council beforeRun;
    private final Council snapshot;
    private boolean hasSnapshot;
    private final History history;
    private final Refusals refusals;
    private final Orders orders;
    private final Clerk clerk;
    private final Line written;

    public GuildSeals() {
        council = new Council();
        beforeRun = new Council();
        snapshot = new Council();
        history = new History();
        refusals = new Refusals(council);
        orders = new Orders();
        clerk = new Clerk(council, refusals);
        written = new Line();
    }

    // Matters.

    public int matter() throws UnsupportedOperationException {
        startChange(refusals.refusesMatter());
        return council.makeMatter();
    }

    public int set(int matter, int guild, int amount)
            throws NoSuchElementException, IllegalArgumentException, UnsupportedOperationException {
        requireMatter(matter);
        if (!council.hasGuild(guild)) {
            throw new NoSuchElementException("no such guild");
        }
        requireFromTo(amount, -MOST_AMOUNT, MOST_AMOUNT);
        startChange(refusals.refusesSet(matter, guild, amount));
        return council.setAmount(matter, guild, amount);
    }

    public int matterOf(int matter, int what) throws NoSuchElementException, IllegalArgumentException {
        requireMatter(matter);
        requireFromTo(what, 0, LAST_NUMBER_OF_MATTER);
        return council.numberOfMatter(matter, what);
    }

    public int answer(int matter, int guild) throws NoSuchElementException, IndexOutOfBoundsException {
        requireMatter(matter);
        requireGuild(guild);
        return council.isGuildOf(matter, guild) ? council.answerOf(matter, guild) : NONE;
    }

    public int amount(int matter, int guild) throws NoSuchElementException, IndexOutOfBoundsException {
        requireMatter(matter);
        requireGuild(guild);
        return council.amountOf(matter, guild);
    }

    // The herald.

    public int ask(int matter, int guild)
            throws NoSuchElementException, IndexOutOfBoundsException, UnsupportedOperationException {
        requireMatter(matter);
        requireGuild(guild);
        startChange(refusals.refusesAsk(matter, guild));
        return council.askGuild(matter, guild);
    }

    public int decide(int matter) throws NoSuchElementException, UnsupportedOperationException {
        requireMatter(matter);
        startChange(refusals.refusesDecide(matter));
        return council.decideMatter(matter);
    }

    public int tell(int matter, int guild)
            throws NoSuchElementException, IndexOutOfBoundsException, UnsupportedOperationException {
        requireMatter(matter);
        requireGuild(guild);
        startChange(refusals.refusesTell(matter, guild));
        return council.tellGuild(matter, guild);
    }

    public int faint() throws UnsupportedOperationException {
        startChange(refusals.refusesFaint());
        return council.letHeraldFaint();
    }

    public int wake() throws UnsupportedOperationException {
        startChange(refusals.refusesWake());
        return council.letHeraldWake();
    }

    public boolean isAwake() {
        return council.isHeraldAwake;
    }

    public int book(int place) throws NoSuchElementException {
        if (place < 0 || place >= council.decided) {
            throw new NoSuchElementException("no such place in the book");
        }
        return council.book[place];
    }

    public boolean wouldSeal(int matter) throws NoSuchElementException, IllegalStateException {
        requireMatter(matter);
        if (council.how[matter] != OPEN || council.countGuilds(matter) == 0) {
            throw new IllegalStateException("not open, or without guilds");
        }
        return council.wouldAllBeReady(matter);
    }

    // Guilds.

    public int sleep(int guild) throws IndexOutOfBoundsException, UnsupportedOperationException {
        requireGuild(guild);
        startChange(refusals.refusesSleep(guild));
        return council.makeAwake(guild, false);
    }

    public int rouse(int guild) throws IndexOutOfBoundsException, UnsupportedOperationException {
        requireGuild(guild);
        startChange(refusals.refusesRouse(guild));
        return council.makeAwake(guild, true);
    }

    public int inquire(int matter, int guild, int other)
            throws NoSuchElementException, IndexOutOfBoundsException, UnsupportedOperationException {
        requireMatter(matter);
        requireGuild(guild);
        requireGuild(other);
        startChange(refusals.refusesInquire(matter, guild, other));
        return council.inquireOf(matter, guild, other);
    }

    public int guildOf(int guild, int what) throws IndexOutOfBoundsException, IllegalArgumentException {
        requireGuild(guild);
        requireFromTo(what, 0, LAST_NUMBER_OF_GUILD);
        return council.numberOfGuild(guild, what);
    }

    public boolean canLearn(int guild, boolean isAgain) throws IndexOutOfBoundsException {
        requireGuild(guild);
        return isAgain ? council.canLearnBySets(guild) : council.canLearnByGuilds(guild);
    }

    public int pass(int hours) throws IllegalArgumentException {
        requireFromTo(hours, 1, MOST_HOURS);
        startChange(false);
        return council.letHoursPass(hours);
    }

    public int ranked(int place) throws IndexOutOfBoundsException {
        if (place < 0 || place >= GUILDS) {
            throw new IndexOutOfBoundsException("no such place");
        }
        return council.guildAtRank(place);
    }

    public int coins(boolean isAgain) {
        return isAgain ? council.coinsBySeals() : council.coinsByGuilds();
    }

    // Lines, texts, accounts, undo and snapshot.

    public int line(int matter) throws NoSuchElementException {
        requireMatter(matter);
        written.write(council, matter);
        return written.length;
    }

    public char character(int index) throws IndexOutOfBoundsException {
        if (index < 0 || index >= written.length) {
            throw new IndexOutOfBoundsException("no such index in the line");
        }
        return written.characters[index];
    }

    public int append(char c) throws IllegalStateException {
        if (orders.length >= MOST_CHARACTERS) {
            throw new IllegalStateException("the input is full");
        }
        orders.addCharacter(c);
        return orders.length;
    }

    public int run() throws IllegalArgumentException, UnsupportedOperationException {
        if (!orders.readText()) {
            throw new IllegalArgumentException("the text has an error");
        }
        beforeRun.copyFrom(council);
        int outcome = clerk.carryOutAll(orders);
        if (outcome != DONE) {
            council.copyFrom(beforeRun);
        }
        if (outcome == REFUSED) {
            throw new UnsupportedOperationException("an order is refused");
        }
        if (outcome == WRONG) {
            throw new IllegalArgumentException("an order names what is not there");
        }
        history.keep(beforeRun);
        return orders.count;
    }

    public int errorPosition() {
        return orders.errorPosition;
    }

    public int refusal(boolean isDetail) throws NoSuchElementException {
        if (refusals.reason == 0) {
            throw new NoSuchElementException("nothing was refused");
        }
        return isDetail ? refusals.detail : refusals.reason;
    }

    public int account(int what) throws IllegalArgumentException {
        requireFromTo(what, 0, LAST_ACCOUNT);
        switch (what) {
            case 11:
                return orders.length;
            case 12:
                return history.size;
            default:
                return council.numberOfAll(what);
        }
    }

    public boolean isWell() {
        return council.areSealsWhole() && council.areWaysAlike() && council.areDoubtsSingle();
    }

    public double meanDoubt() {
        return (double) council.allDoubt() / (double) GUILDS;
    }

    public float sealedShare() throws ArithmeticException {
        if (council.decided == 0) {
            throw new ArithmeticException("none was decided");
        }
        return (float) council.countMatters(SEALED) / (float) council.decided;
    }

    public int undo() throws IllegalStateException {
        if (history.size == 0) {
            throw new IllegalStateException("no change can be undone");
        }
        history.takeBack(council);
        return history.size;
    }

    public int save() {
        snapshot.copyFrom(council);
        hasSnapshot = true;
        return council.matters;
    }

    public int restore() throws IllegalStateException {
        if (!hasSnapshot) {
            throw new IllegalStateException("there is no snapshot");
        }
        council.copyFrom(snapshot);
        history.forget();
        return council.matters;
    }

    private void startChange(boolean isRefused) {
        if (isRefused) {
            throw new UnsupportedOperationException("refused");
        }
        history.keep(council);
    }

    private void requireMatter(int matter) {
        if (!council.hasMatter(matter)) {
            throw new NoSuchElementException("no such matter");
        }
    }

    private void requireGuild(int guild) {
        if (!council.hasGuild(guild)) {
            throw new IndexOutOfBoundsException("no such guild");
        }
    }

    private void requireFromTo(int number, int first, int last) {
        if (number < first || number > last) {
            throw new IllegalArgumentException("out of range");
        }
    }

    /**
     * All that changes can change, with the rules of how it changes. Its callers have looked
     * whether matters and guilds are there and whether the change is refused.
     */
    private static final class Council {
        int matters;
        int decided;
        int hour;
        int inquiries;
        int faints;
        boolean isHeraldAwake;
        final int[] how;
        final int[] hourMade;
        final int[] book;
        // A matter's guilds are those whose amount is not 0; rows of six stand one after the other.
        final int[] amounts;
        final int[] answers;
        final int[] coins;
        final int[] doubt;
        final boolean[] awake;

        Council() {
            isHeraldAwake = true;
            how = new int[MOST_MATTERS];
            hourMade = new int[MOST_MATTERS];
            book = new int[MOST_MATTERS];
            amounts = new int[MOST_MATTERS * GUILDS];
            answers = new int[MOST_MATTERS * GUILDS];
            coins = new int[GUILDS];
            doubt = new int[GUILDS];
            awake = new boolean[GUILDS];
            for (int guild = 0; guild < GUILDS; guild++) {
                coins[guild] = COINS_AT_FIRST;
                awake[guild] = true;
            }
        }

        void copyFrom(Council other) {
            matters = other.matters;
            decided = other.decided;
            hour = other.hour;
            inquiries = other.inquiries;
            faints = other.faints;
            isHeraldAwake = other.isHeraldAwake;
            System.arraycopy(other.how, 0, how, 0, MOST_MATTERS);
            System.arraycopy(other.hourMade, 0, hourMade, 0, MOST_MATTERS);
            System.arraycopy(other.book, 0, book, 0, MOST_MATTERS);
            System.arraycopy(other.amounts, 0, amounts, 0, MOST_MATTERS * GUILDS);
            System.arraycopy(other.answers, 0, answers, 0, MOST_MATTERS * GUILDS);
            System.arraycopy(other.coins, 0, coins, 0, GUILDS);
            System.arraycopy(other.doubt, 0, doubt, 0, GUILDS);
            for (int guild = 0; guild < GUILDS; guild++) {
                awake[guild] = other.awake[guild];
            }
        }

        boolean hasMatter(int matter) {
            return matter >= 0 && matter < matters;
        }

        boolean hasGuild(int guild) {
            return guild >= 0 && guild < GUILDS;
        }

        boolean isGuildOf(int matter, int guild) {
            return amounts[matter * GUILDS + guild] != 0;
        }

        int amountOf(int matter, int guild) {
            return amounts[matter * GUILDS + guild];
        }

        int answerOf(int matter, int guild) {
            return answers[matter * GUILDS + guild];
        }

        private void giveAnswer(int matter, int guild, int answer) {
            answers[matter * GUILDS + guild] = answer;
        }

        int makeMatter() {
            int made = matters;
            hourMade[made] = hour;
            matters++;
            return made;
        }

        int setAmount(int matter, int guild, int amount) {
            amounts[matter * GUILDS + guild] = amount;
            return countGuilds(matter);
        }

        int askGuild(int matter, int guild) {
            giveAnswer(matter, guild, wouldBeReady(matter, guild) ? READY : UNWILLING);
            return answerOf(matter, guild);
        }

        private boolean wouldBeReady(int matter, int guild) {
            return doubtOf(guild) == NONE && coins[guild] + amountOf(matter, guild) >= 0;
        }

        boolean wouldAllBeReady(int matter) {
            for (int guild = 0; guild < GUILDS; guild++) {
                if (isGuildOf(matter, guild) && !isOrWouldBeReady(matter, guild)) {
                    return false;
                }
            }
            return true;
        }

        private boolean isOrWouldBeReady(int matter, int guild) {
            int answer = answerOf(matter, guild);
            return answer == READY || answer == NOT_ASKED && wouldBeReady(matter, guild);
        }

        int decideMatter(int matter) {
            enterInBook(matter, isOpposed(matter) ? BROKEN : SEALED);
            return how[matter];
        }

        private void enterInBook(int matter, int decision) {
            how[matter] = decision;
            if (decided < MOST_MATTERS) {
                book[decided] = matter;
                decided++;
            }
        }

        boolean isOpposed(int matter) {
            return countAnswers(matter, UNWILLING) + countAnswers(matter, HAS_BROKEN) > 0;
        }

        int firstNotAsked(int matter) {
            int guild = 0;
            while (guild < GUILDS && !(isGuildOf(matter, guild) && answerOf(matter, guild) == NOT_ASKED)) {
                guild++;
            }
            return guild;
        }

        int tellGuild(int matter, int guild) {
            if (how[matter] == SEALED) {
                sealFor(matter, guild);
            } else {
                giveAnswer(matter, guild, HAS_BROKEN);
            }
            return coins[guild];
        }

        private void sealFor(int matter, int guild) {
            giveAnswer(matter, guild, HAS_SEALED);
            coins[guild] += amountOf(matter, guild);
        }

        int letHeraldFaint() {
            isHeraldAwake = false;
            faints++;
            return countMatters(OPEN);
        }

        int letHeraldWake() {
            isHeraldAwake = true;
            int before = decided;
            for (int matter = 0; matter < matters; matter++) {
                if (how[matter] == OPEN && countAnswered(matter) > 0) {
                    enterInBook(matter, BROKEN);
                }
            }
            return decided - before;
        }

        int makeAwake(int guild, boolean isAwake) {
            awake[guild] = isAwake;
            return countAwake();
        }

        int inquireOf(int matter, int guild, int other) {
            inquiries++;
            int answer = answerOf(matter, other);
            if (answer == HAS_SEALED) {
                sealFor(matter, guild);
            } else {
                giveAnswer(matter, guild, HAS_BROKEN);
            }
            if (answer == NOT_ASKED) {
                giveAnswer(matter, other, UNWILLING);
            }
            return answerOf(matter, guild);
        }

        int letHoursPass(int hours) {
            hour += hours;
            int sum = 0;
            for (int guild = 0; guild < GUILDS; guild++) {
                if (doubtOf(guild) != NONE) {
                    doubt[guild] += hours;
                    sum += hours;
                }
            }
            return sum;
        }

        int doubtOf(int guild) {
            for (int matter = 0; matter < matters; matter++) {
                if (answerOf(matter, guild) == READY) {
                    return matter;
                }
            }
            return NONE;
        }

        boolean canLearnByGuilds(int guild) {
            int matter = doubtOf(guild);
            if (matter == NONE || !awake[guild]) {
                return false;
            }
            for (int other = 0; other < GUILDS; other++) {
                if (other != guild && isGuildOf(matter, other) && awake[other]
                        && answerOf(matter, other) != READY) {
                    return true;
                }
            }
            return false;
        }

        boolean canLearnBySets(int guild) {
            int awakeOnes = setOfAwake();
            for (int matter = 0; matter < matters; matter++) {
                int doubters = setOfDoubters(matter);
                int knowers = setOfGuilds(matter) & ~doubters & awakeOnes;
                if ((doubters & awakeOnes & (1 << guild)) != 0 && knowers != 0) {
                    return true;
                }
            }
            return false;
        }

        private int setOfAwake() {
            int set = 0;
            for (int guild = 0; guild < GUILDS; guild++) {
                set |= awake[guild] ? 1 << guild : 0;
            }
            return set;
        }

        private int setOfDoubters(int matter) {
            int set = 0;
            for (int guild = 0; guild < GUILDS; guild++) {
                set |= answerOf(matter, guild) == READY ? 1 << guild : 0;
            }
            return set;
        }

        private int setOfGuilds(int matter) {
            int set = 0;
            for (int guild = 0; guild < GUILDS; guild++) {
                set |= isGuildOf(matter, guild) ? 1 << guild : 0;
            }
            return set;
        }

        int guildAtRank(int place) {
            int guild = 0;
            while (guild < GUILDS - 1 && countAhead(guild) != place) {
                guild++;
            }
            return guild;
        }

        private int countAhead(int guild) {
            int ahead = 0;
            for (int other = 0; other < GUILDS; other++) {
                if (doubt[other] > doubt[guild] || doubt[other] == doubt[guild] && other < guild) {
                    ahead++;
                }
            }
            return ahead;
        }

        int coinsByGuilds() {
            int sum = 0;
            for (int guild = 0; guild < GUILDS; guild++) {
                sum += coins[guild];
            }
            return sum;
        }

        int coinsBySeals() {
            int sum = GUILDS * COINS_AT_FIRST;
            for (int matter = 0; matter < matters; matter++) {
                for (int guild = 0; guild < GUILDS; guild++) {
                    sum += answerOf(matter, guild) == HAS_SEALED ? amountOf(matter, guild) : 0;
                }
            }
            return sum;
        }

        int numberOfMatter(int matter, int what) {
            switch (what) {
                case 0:
                    return how[matter];
                case 1:
                    return countGuilds(matter);
                case 2:
                    return countAnswered(matter);
                case 3:
                    return countAnswers(matter, READY);
                case 4:
                    return countAnswers(matter, UNWILLING);
                case 5:
                    return countHeard(matter);
                case 6:
                    return sumOfAmounts(matter);
                default:
                    return hourMade[matter];
            }
        }

        int numberOfGuild(int guild, int what) {
            switch (what) {
                case 0:
                    return coins[guild];
                case 1:
                    return awake[guild] ? 1 : 0;
                case 2:
                    return doubtOf(guild);
                case 3:
                    return doubt[guild];
                case 4:
                    return countMattersOf(guild, HAS_SEALED);
                default:
                    return countMattersOf(guild, HAS_BROKEN);
            }
        }

        int numberOfAll(int what) {
            switch (what) {
                case 0:
                    return matters;
                case 1:
                    return countMatters(OPEN);
                case 2:
                    return countMatters(SEALED);
                case 3:
                    return countMatters(BROKEN);
                case 4:
                    return countAwake();
                case 5:
                    return countInDoubt();
                case 6:
                    return hour;
                case 7:
                    return allDoubt();
                case 8:
                    return inquiries;
                case 9:
                    return faints;
                default:
                    return countHeardByAll();
            }
        }

        int countMatters(int state) {
            int count = 0;
            for (int matter = 0; matter < matters; matter++) {
                count += how[matter] == state ? 1 : 0;
            }
            return count;
        }

        private int countMattersOf(int guild, int answer) {
            int count = 0;
            for (int matter = 0; matter < matters; matter++) {
                count += answerOf(matter, guild) == answer ? 1 : 0;
            }
            return count;
        }

        private int countHeardByAll() {
            int count = 0;
            for (int matter = 0; matter < matters; matter++) {
                int guilds = countGuilds(matter);
                count += guilds > 0 && countHeard(matter) == guilds ? 1 : 0;
            }
            return count;
        }

        int countGuilds(int matter) {
            int count = 0;
            for (int guild = 0; guild < GUILDS; guild++) {
                count += isGuildOf(matter, guild) ? 1 : 0;
            }
            return count;
        }

        private int countAnswers(int matter, int answer) {
            int count = 0;
            int first = matter * GUILDS;
            for (int cell = first; cell < first + GUILDS; cell++) {
                count += amounts[cell] != 0 && answers[cell] == answer ? 1 : 0;
            }
            return count;
        }

        int countAnswered(int matter) {
            return countGuilds(matter) - countAnswers(matter, NOT_ASKED);
        }

        private int countHeard(int matter) {
            return countAnswers(matter, HAS_SEALED) + countAnswers(matter, HAS_BROKEN);
        }

        private int sumOfAmounts(int matter) {
            int sum = 0;
            for (int guild = 0; guild < GUILDS; guild++) {
                sum += amountOf(matter, guild);
            }
            return sum;
        }

        private int countAwake() {
            int count = 0;
            for (int guild = 0; guild < GUILDS; guild++) {
                count += awake[guild] ? 1 : 0;
            }
            return count;
        }

        private int countInDoubt() {
            int count = 0;
            for (int guild = 0; guild < GUILDS; guild++) {
                count += doubtOf(guild) != NONE ? 1 : 0;
            }
            return count;
        }

        int allDoubt() {
            int sum = 0;
            for (int guild = 0; guild < GUILDS; guild++) {
                sum += doubt[guild];
            }
            return sum;
        }

        boolean areSealsWhole() {
            for (int matter = 0; matter < matters; matter++) {
                if (countAnswers(matter, HAS_SEALED) > 0 && countAnswers(matter, HAS_BROKEN) > 0) {
                    return false;
                }
            }
            return true;
        }

        boolean areWaysAlike() {
            for (int guild = 0; guild < GUILDS; guild++) {
                if (canLearnByGuilds(guild) != canLearnBySets(guild)) {
                    return false;
                }
            }
            return coinsByGuilds() == coinsBySeals();
        }

        boolean areDoubtsSingle() {
            for (int guild = 0; guild < GUILDS; guild++) {
                if (countMattersOf(guild, READY) > 1) {
                    return false;
                }
            }
            return true;
        }
    }

    /** Looks for the first reason that applies, and keeps it. */
    private static final class Refusals {
        final Council council;
        // 0 as long as nothing was refused.
        int reason;
        int detail;

        Refusals(Council council) {
            this.council = council;
        }

        boolean refusesMatter() {
            return keepIf(council.matters >= MOST_MATTERS, 1, council.matters);
        }

        boolean refusesSet(int matter, int guild, int amount) {
            int answered = council.countAnswered(matter);
            return isNotOpen(matter)
                    || keepIf(answered > 0, 6, answered)
                    || keepIf(council.amountOf(matter, guild) == amount, 10, amount);
        }

        boolean refusesAsk(int matter, int guild) {
            int answer = council.answerOf(matter, guild);
            return hasFainted()
                    || isNotOpen(matter)
                    || isNoGuildOf(matter, guild)
                    || isAsleep(guild)
                    || keepIf(answer != NOT_ASKED, 9, answer);
        }

        boolean refusesDecide(int matter) {
            return hasFainted()
                    || isNotOpen(matter)
                    || isUndecided(matter);
        }

        boolean refusesTell(int matter, int guild) {
            int answer = council.answerOf(matter, guild);
            return hasFainted()
                    || keepIf(council.how[matter] == OPEN, 8, matter)
                    || isNoGuildOf(matter, guild)
                    || isAsleep(guild)
                    || keepIf(answer == HAS_SEALED || answer == HAS_BROKEN, 9, answer);
        }

        boolean refusesFaint() {
            return hasFainted();
        }

        boolean refusesWake() {
            return keepIf(council.isHeraldAwake, 11, council.decided);
        }

        boolean refusesSleep(int guild) {
            return keepIf(!council.awake[guild], 10, 0);
        }

        boolean refusesRouse(int guild) {
            return keepIf(council.awake[guild], 10, 1);
        }

        boolean refusesInquire(int matter, int guild, int other) {
            int answer = council.answerOf(matter, guild);
            return isNoGuildOf(matter, guild)
                    || isNoGuildOf(matter, other)
                    || isAsleep(guild)
                    || isAsleep(other)
                    || keepIf(answer != READY, 12, answer)
                    || keepIf(council.answerOf(matter, other) == READY, 13, other);
        }

        private boolean hasFainted() {
            return keepIf(!council.isHeraldAwake, 2, council.countMatters(OPEN));
        }

        private boolean isNotOpen(int matter) {
            return keepIf(council.how[matter] != OPEN, 3, council.how[matter]);
        }

        private boolean isNoGuildOf(int matter, int guild) {
            return keepIf(!council.isGuildOf(matter, guild), 4, guild);
        }

        private boolean isAsleep(int guild) {
            return keepIf(!council.awake[guild], 5, guild);
        }

        // Without guilds there is none that was not asked, so that the detail is 6 by itself.
        private boolean isUndecided(int matter) {
            int first = council.firstNotAsked(matter);
            boolean isWaiting = first < GUILDS || council.countGuilds(matter) == 0;
            return keepIf(isWaiting && !council.isOpposed(matter), 7, first);
        }

        private boolean keepIf(boolean applies, int number, int about) {
            if (applies) {
                reason = number;
                detail = about;
            }
            return applies;
        }
    }

    /** The states before the latest changes, in a ring, so that none is moved or made anew. */
    private static final class History {
        final Council[] kept;
        int next;
        int size;

        History() {
            kept = new Council[MOST_CHANGES];
            for (int i = 0; i < MOST_CHANGES; i++) {
                kept[i] = new Council();
            }
        }

        void keep(Council council) {
            kept[next].copyFrom(council);
            next = (next + 1) % MOST_CHANGES;
            size = Math.min(size + 1, MOST_CHANGES);
        }

        void takeBack(Council council) {
            next = (next + MOST_CHANGES - 1) % MOST_CHANGES;
            size--;
            council.copyFrom(kept[next]);
        }

        void forget() {
            size = 0;
        }
    }

    /** The input, and the orders of its text once it has been read. */
    private static final class Orders {
        final char[] input;
        int length;
        int position;
        boolean hasFailed;
        int errorPosition;
        int count;
        final int[] kinds;
        final int[] matters;
        final int[] guilds;
        // The amount, the other guild or the hours.
        final int[] numbers;

        Orders() {
            input = new char[MOST_CHARACTERS];
            errorPosition = NONE;
            kinds = new int[MOST_ORDERS];
            matters = new int[MOST_ORDERS];
            guilds = new int[MOST_ORDERS];
            numbers = new int[MOST_ORDERS];
        }

        void addCharacter(char c) {
            if (length < MOST_CHARACTERS) {
                input[length] = c;
                length++;
            }
        }

        /** Empties the input, too; tells whether the text had no error. */
        boolean readText() {
            position = 0;
            count = 0;
            hasFailed = false;
            // One turn more than there are orders: after 30 semicolons the text ends too early.
            for (int i = 0; i <= MOST_ORDERS && !hasFailed; i++) {
                readOrder();
                if (position == length) {
                    break;
                }
                readSign(';');
            }
            errorPosition = hasFailed ? position : NONE;
            length = 0;
            return !hasFailed;
        }

        private void readOrder() {
            int kind = readLetter();
            int matter = hasMatter(kind) ? readDigit() : 0;
            if (hasMatter(kind) && hasGuild(kind)) {
                readSign('.');
            }
            int guild = hasGuild(kind) ? readDigit() : 0;
            int number = readLast(kind);
            if (!hasFailed && count < MOST_ORDERS) {
                kinds[count] = kind;
                matters[count] = matter;
                guilds[count] = guild;
                numbers[count] = number;
                count++;
            }
        }

        private boolean hasMatter(int kind) {
            return kind == ORDER_SET || kind == ORDER_ASK || kind == ORDER_DECIDE
                    || kind == ORDER_TELL || kind == ORDER_INQUIRE;
        }

        private boolean hasGuild(int kind) {
            return kind == ORDER_SET || kind == ORDER_ASK || kind == ORDER_TELL
                    || kind == ORDER_SLEEP || kind == ORDER_ROUSE || kind == ORDER_INQUIRE;
        }

        private int readLast(int kind) {
            switch (kind) {
                case ORDER_SET:
                    readSign('=');
                    return readPlusOrMinus() * readOneOrTwoDigits();
                case ORDER_INQUIRE:
                    readSign('<');
                    return readDigit();
                case ORDER_PASS:
                    return readOneOrTwoDigits();
                default:
                    return 0;
            }
        }

        private int readLetter() {
            char letter = nextCharacter();
            hasFailed = hasFailed || ORDER_LETTERS.indexOf(letter) < 0;
            position += hasFailed ? 0 : 1;
            return letter;
        }

        private void readSign(char sign) {
            hasFailed = hasFailed || nextCharacter() != sign;
            position += hasFailed ? 0 : 1;
        }

        private int readPlusOrMinus() {
            boolean isMinus = nextCharacter() == '-';
            readSign(isMinus ? '-' : '+');
            return isMinus ? -1 : 1;
        }

        private int readOneOrTwoDigits() {
            int number = readDigit();
            return isDigit(nextCharacter()) ? 10 * number + readDigit() : number;
        }

        private int readDigit() {
            char digit = nextCharacter();
            hasFailed = hasFailed || !isDigit(digit);
            position += hasFailed ? 0 : 1;
            return digit - '0';
        }

        private boolean isDigit(char c) {
            return c >= '0' && c <= '9';
        }

        // No order has a character 0, so that it can stand for the end of the text.
        private char nextCharacter() {
            return position < length ? input[position] : (char) 0;
        }
    }

    /** Carries out orders without an exception, so that the one who runs them can take them back. */
    private static final class Clerk {
        final Council council;
        final Refusals refusals;

        Clerk(Council council, Refusals refusals) {
            this.council = council;
            this.refusals = refusals;
        }

        int carryOutAll(Orders orders) {
            for (int i = 0; i < orders.count; i++) {
                int kind = orders.kinds[i];
                int matter = orders.matters[i];
                int guild = orders.guilds[i];
                int number = orders.numbers[i];
                if (isWrong(kind, matter, guild, number)) {
                    return WRONG;
                }
                if (isRefused(kind, matter, guild, number)) {
                    return REFUSED;
                }
                perform(kind, matter, guild, number);
            }
            return DONE;
        }

        private boolean isWrong(int kind, int matter, int guild, int number) {
            switch (kind) {
                case ORDER_SET:
                    return lacks(matter, guild) || number < -MOST_AMOUNT || number > MOST_AMOUNT;
                case ORDER_ASK:
                case ORDER_TELL:
                    return lacks(matter, guild);
                case ORDER_INQUIRE:
                    return lacks(matter, guild) || !council.hasGuild(number);
                case ORDER_DECIDE:
                    return !council.hasMatter(matter);
                case ORDER_SLEEP:
                case ORDER_ROUSE:
                    return !council.hasGuild(guild);
                case ORDER_PASS:
                    return number < 1 || number > MOST_HOURS;
                default:
                    return false;
            }
        }

        private boolean lacks(int matter, int guild) {
            return !council.hasMatter(matter) || !council.hasGuild(guild);
        }

        private boolean isRefused(int kind, int matter, int guild, int number) {
            switch (kind) {
                case ORDER_MATTER:
                    return refusals.refusesMatter();
                case ORDER_SET:
                    return refusals.refusesSet(matter, guild, number);
                case ORDER_ASK:
                    return refusals.refusesAsk(matter, guild);
                case ORDER_DECIDE:
                    return refusals.refusesDecide(matter);
                case ORDER_TELL:
                    return refusals.refusesTell(matter, guild);
                case ORDER_FAINT:
                    return refusals.refusesFaint();
                case ORDER_WAKE:
                    return refusals.refusesWake();
                case ORDER_SLEEP:
                    return refusals.refusesSleep(guild);
                case ORDER_ROUSE:
                    return refusals.refusesRouse(guild);
                case ORDER_INQUIRE:
                    return refusals.refusesInquire(matter, guild, number);
                default:
                    return false;
            }
        }

        private int perform(int kind, int matter, int guild, int number) {
            switch (kind) {
                case ORDER_MATTER:
                    return council.makeMatter();
                case ORDER_SET:
                    return council.setAmount(matter, guild, number);
                case ORDER_ASK:
                    return council.askGuild(matter, guild);
                case ORDER_DECIDE:
                    return council.decideMatter(matter);
                case ORDER_TELL:
                    return council.tellGuild(matter, guild);
                case ORDER_FAINT:
                    return council.letHeraldFaint();
                case ORDER_WAKE:
                    return council.letHeraldWake();
                case ORDER_SLEEP:
                    return council.makeAwake(guild, false);
                case ORDER_ROUSE:
                    return council.makeAwake(guild, true);
                case ORDER_INQUIRE:
                    return council.inquireOf(matter, guild, number);
                default:
                    return council.letHoursPass(number);
            }
        }
    }

    /** The line that was written last. */
    private static final class Line {
        final char[] characters;
        int length;

        Line() {
            characters = new char[LONGEST_LINE];
        }

        void write(Council council, int matter) {
            length = 0;
            put('#');
            putNumber(matter);
            put(signOfMatter(council.how[matter]));
            for (int guild = 0; guild < GUILDS; guild++) {
                if (council.isGuildOf(matter, guild)) {
                    writeGuild(council, matter, guild);
                }
            }
        }

        private void writeGuild(Council council, int matter, int guild) {
            int amount = council.amountOf(matter, guild);
            put(' ');
            putNumber(guild);
            put(amount < 0 ? '-' : '+');
            putNumber(Math.abs(amount));
            put(signOfAnswer(council.answerOf(matter, guild)));
        }

        private char signOfMatter(int state) {
            switch (state) {
                case SEALED:
                    return 's';
                case BROKEN:
                    return 'b';
                default:
                    return 'o';
            }
        }

        private char signOfAnswer(int answer) {
            switch (answer) {
                case READY:
                    return 'r';
                case UNWILLING:
                    return 'u';
                case HAS_SEALED:
                    return 's';
                case HAS_BROKEN:
                    return 'b';
                default:
                    return 'n';
            }
        }

        private void putNumber(int number) {
            if (number >= 10) {
                put((char) ('0' + number / 10));
            }
            put((char) ('0' + number % 10));
        }

        private void put(char c) {
            if (length < LONGEST_LINE) {
                characters[length] = c;
                length++;
            }
        }
    }
}
