import java.util.ArrayDeque;
import java.util.ArrayList;
import java.util.Comparator;
import java.util.Deque;
import java.util.List;
import java.util.NoSuchElementException;
import java.util.TreeMap;
import java.util.regex.Matcher;
import java.util.regex.Pattern;
import java.util.stream.IntStream;

/**
 * A second, plain way to do what the document says, written from the document alone and with the
 * whole Java library, so that a slip in one of the two shows as a difference.
 */
final class PlainSeals {
    private static final String ORDER = "(?:n|a\\d\\.\\d=[+-]\\d\\d?|q\\d\\.\\d|d\\d|t\\d\\.\\d|f|w|s\\d|r\\d|i\\d\\.\\d<\\d|h\\d\\d?)";
    private static final Pattern TEXT = Pattern.compile(ORDER + "(?:;" + ORDER + ")*");

    private static final class Matter {
        char how = 'o';
        int hour;
        TreeMap<Integer, Integer> amounts = new TreeMap<>();
        TreeMap<Integer, Character> answers = new TreeMap<>();

        Matter copy() {
            Matter m = new Matter();
            m.how = how;
            m.hour = hour;
            m.amounts.putAll(amounts);
            m.answers.putAll(answers);
            return m;
        }

        long count(String signs) {
            return answers.values().stream().filter(a -> signs.indexOf(a) >= 0).count();
        }
    }

    private static final class State {
        List<Matter> matters = new ArrayList<>();
        List<Integer> book = new ArrayList<>();
        int[] coins = {20, 20, 20, 20, 20, 20};
        int[] doubt = new int[6];
        boolean[] asleep = new boolean[6];
        boolean fainted;
        int hour;
        int inquiries;
        int faints;

        State copy() {
            State s = new State();
            for (Matter m : matters) {
                s.matters.add(m.copy());
            }
            s.book.addAll(book);
            s.coins = coins.clone();
            s.doubt = doubt.clone();
            s.asleep = asleep.clone();
            s.fainted = fainted;
            s.hour = hour;
            s.inquiries = inquiries;
            s.faints = faints;
            return s;
        }
    }

    private State now = new State();
    private State snapshot;
    private final Deque<State> past = new ArrayDeque<>();
    private boolean inRun;
    private String input = "";
    private String line = "";
    private int errorPosition = -1;
    private int reason;
    private int detail;

    private Matter at(int matter) {
        if (matter < 0 || matter >= now.matters.size()) {
            throw new NoSuchElementException();
        }
        return now.matters.get(matter);
    }

    private void guild(int guild) {
        if (guild < 0 || guild > 5) {
            throw new IndexOutOfBoundsException();
        }
    }

    private void range(int number, int first, int last) {
        if (number < first || number > last) {
            throw new IllegalArgumentException();
        }
    }

    private void refuse(boolean applies, int number, int about) {
        if (applies) {
            reason = number;
            detail = about;
            throw new UnsupportedOperationException();
        }
    }

    private void changing() {
        if (!inRun) {
            past.addLast(now.copy());
            if (past.size() > 8) {
                past.removeFirst();
            }
        }
    }

    private int open() {
        return (int) now.matters.stream().filter(m -> m.how == 'o').count();
    }

    private static int number(char answer) {
        return "nrusb".indexOf(answer);
    }

    private int doubtOf(int guild) {
        return IntStream.range(0, now.matters.size())
                .filter(m -> Character.valueOf('r').equals(now.matters.get(m).answers.get(guild)))
                .findFirst().orElse(-1);
    }

    private char reply(Matter m, int guild) {
        return doubtOf(guild) < 0 && now.coins[guild] + m.amounts.get(guild) >= 0 ? 'r' : 'u';
    }

    int matter() {
        refuse(now.matters.size() == 8, 1, 8);
        changing();
        Matter m = new Matter();
        m.hour = now.hour;
        now.matters.add(m);
        return now.matters.size() - 1;
    }

    int set(int matter, int guild, int amount) {
        Matter m = at(matter);
        if (guild < 0 || guild > 5) {
            throw new NoSuchElementException();
        }
        range(amount, -50, 50);
        refuse(m.how != 'o', 3, m.how == 's' ? 1 : 2);
        refuse(m.count("rusb") > 0, 6, (int) m.count("rusb"));
        refuse(m.amounts.getOrDefault(guild, 0) == amount, 10, amount);
        changing();
        m = at(matter);
        if (amount == 0) {
            m.amounts.remove(guild);
            m.answers.remove(guild);
        } else {
            m.amounts.put(guild, amount);
            m.answers.put(guild, 'n');
        }
        return m.amounts.size();
    }

    int matterOf(int matter, int what) {
        Matter m = at(matter);
        range(what, 0, 7);
        int sum = m.amounts.values().stream().mapToInt(a -> a).sum();
        long[] all = {"osb".indexOf(m.how), m.amounts.size(), m.count("rusb"), m.count("r"),
            m.count("u"), m.count("sb"), sum, m.hour};
        return (int) all[what];
    }

    int answer(int matter, int guild) {
        Matter m = at(matter);
        guild(guild);
        return m.answers.containsKey(guild) ? number(m.answers.get(guild)) : -1;
    }

    int amount(int matter, int guild) {
        Matter m = at(matter);
        guild(guild);
        return m.amounts.getOrDefault(guild, 0);
    }

    int ask(int matter, int guild) {
        Matter m = at(matter);
        guild(guild);
        refuse(now.fainted, 2, open());
        refuse(m.how != 'o', 3, m.how == 's' ? 1 : 2);
        refuse(!m.amounts.containsKey(guild), 4, guild);
        refuse(now.asleep[guild], 5, guild);
        refuse(m.answers.get(guild) != 'n', 9, number(m.answers.get(guild)));
        changing();
        m.answers.put(guild, reply(m, guild));
        return number(m.answers.get(guild));
    }

    int decide(int matter) {
        Matter m = at(matter);
        refuse(now.fainted, 2, open());
        refuse(m.how != 'o', 3, m.how == 's' ? 1 : 2);
        boolean against = m.count("ub") > 0;
        refuse(m.amounts.isEmpty(), 7, 6);
        for (int g : m.answers.keySet()) {
            refuse(m.answers.get(g) == 'n' && !against, 7, g);
        }
        changing();
        m.how = against ? 'b' : 's';
        now.book.add(matter);
        return m.how == 's' ? 1 : 2;
    }

    int tell(int matter, int guild) {
        Matter m = at(matter);
        guild(guild);
        refuse(now.fainted, 2, open());
        refuse(m.how == 'o', 8, matter);
        refuse(!m.amounts.containsKey(guild), 4, guild);
        refuse(now.asleep[guild], 5, guild);
        refuse("sb".indexOf(m.answers.get(guild)) >= 0, 9, number(m.answers.get(guild)));
        changing();
        m.answers.put(guild, m.how);
        now.coins[guild] += m.how == 's' ? m.amounts.get(guild) : 0;
        return now.coins[guild];
    }

    int faint() {
        refuse(now.fainted, 2, open());
        changing();
        now.fainted = true;
        now.faints++;
        return open();
    }

    int wake() {
        refuse(!now.fainted, 11, now.book.size());
        changing();
        now.fainted = false;
        int before = now.book.size();
        for (int i = 0; i < now.matters.size(); i++) {
            if (now.matters.get(i).how == 'o' && now.matters.get(i).count("rusb") > 0) {
                now.matters.get(i).how = 'b';
                now.book.add(i);
            }
        }
        return now.book.size() - before;
    }

    boolean isAwake() {
        return !now.fainted;
    }

    int book(int place) {
        if (place < 0 || place >= now.book.size()) {
            throw new NoSuchElementException();
        }
        return now.book.get(place);
    }

    /** By trial: everyone is asked, as if all were awake, and what was asked is taken back. */
    boolean wouldSeal(int matter) {
        Matter m = at(matter);
        if (m.how != 'o' || m.amounts.isEmpty()) {
            throw new IllegalStateException();
        }
        State before = now;
        now = now.copy();
        m = at(matter);
        for (int g : m.amounts.keySet()) {
            if (m.answers.get(g) == 'n') {
                m.answers.put(g, reply(m, g));
            }
        }
        boolean all = m.count("r") == m.amounts.size();
        now = before;
        return all;
    }

    private int awake() {
        return (int) IntStream.range(0, 6).filter(g -> !now.asleep[g]).count();
    }

    int sleep(int guild) {
        guild(guild);
        refuse(now.asleep[guild], 10, 0);
        changing();
        now.asleep[guild] = true;
        return awake();
    }

    int rouse(int guild) {
        guild(guild);
        refuse(!now.asleep[guild], 10, 1);
        changing();
        now.asleep[guild] = false;
        return awake();
    }

    int inquire(int matter, int guild, int other) {
        Matter m = at(matter);
        guild(guild);
        guild(other);
        refuse(!m.amounts.containsKey(guild), 4, guild);
        refuse(!m.amounts.containsKey(other), 4, other);
        refuse(now.asleep[guild], 5, guild);
        refuse(now.asleep[other], 5, other);
        refuse(m.answers.get(guild) != 'r', 12, number(m.answers.get(guild)));
        refuse(m.answers.get(other) == 'r', 13, other);
        changing();
        now.inquiries++;
        switch (m.answers.get(other)) {
            case 's' -> {
                m.answers.put(guild, 's');
                now.coins[guild] += m.amounts.get(guild);
            }
            case 'b' -> m.answers.put(guild, 'b');
            default -> {
                m.answers.put(other, 'u');
                m.answers.put(guild, 'b');
            }
        }
        return number(m.answers.get(guild));
    }

    int guildOf(int guild, int what) {
        guild(guild);
        range(what, 0, 5);
        long sealed = now.matters.stream().filter(m -> m.answers.getOrDefault(guild, 'n') == 's').count();
        long broken = now.matters.stream().filter(m -> m.answers.getOrDefault(guild, 'n') == 'b').count();
        long[] all = {now.coins[guild], now.asleep[guild] ? 0 : 1, doubtOf(guild), now.doubt[guild], sealed, broken};
        return (int) all[what];
    }

    boolean canLearn(int guild, boolean isAgain) {
        guild(guild);
        int matter = doubtOf(guild);
        return matter >= 0 && !now.asleep[guild] && at(matter).answers.entrySet().stream()
                .anyMatch(e -> e.getKey() != guild && e.getValue() != 'r' && !now.asleep[e.getKey()]);
    }

    int pass(int hours) {
        range(hours, 1, 24);
        changing();
        int sum = 0;
        for (int i = 0; i < hours; i++) {
            now.hour++;
            for (int g = 0; g < 6; g++) {
                if (doubtOf(g) >= 0) {
                    now.doubt[g]++;
                    sum++;
                }
            }
        }
        return sum;
    }

    int ranked(int place) {
        if (place < 0 || place > 5) {
            throw new IndexOutOfBoundsException();
        }
        return IntStream.range(0, 6).boxed()
                .sorted(Comparator.comparingInt((Integer g) -> -now.doubt[g])).toList().get(place);
    }

    int coins(boolean isAgain) {
        return IntStream.of(now.coins).sum();
    }

    int line(int matter) {
        Matter m = at(matter);
        StringBuilder text = new StringBuilder("#" + matter + m.how);
        m.amounts.forEach((g, a) -> text.append(" ").append(g).append(String.format("%+d", a)).append(m.answers.get(g)));
        line = text.toString();
        return line.length();
    }

    char character(int index) {
        if (index < 0 || index >= line.length()) {
            throw new IndexOutOfBoundsException();
        }
        return line.charAt(index);
    }

    int append(char c) {
        if (input.length() == 60) {
            throw new IllegalStateException();
        }
        input += c;
        return input.length();
    }

    /** By prefixes: the first one that no further characters can make a text ends with the error. */
    private static int errorIn(String text) {
        for (int i = 1; i <= text.length(); i++) {
            Matcher m = TEXT.matcher(text.substring(0, i));
            if (!m.matches() && !m.hitEnd()) {
                return i - 1;
            }
        }
        return TEXT.matcher(text).matches() ? -1 : text.length();
    }

    int run() {
        String text = input;
        input = "";
        errorPosition = errorIn(text);
        if (errorPosition >= 0) {
            throw new IllegalArgumentException();
        }
        State before = now.copy();
        boolean isDone = false;
        inRun = true;
        try {
            for (String order : text.split(";")) {
                carryOut(order);
            }
            isDone = true;
        } catch (NoSuchElementException | IndexOutOfBoundsException e) {
            throw new IllegalArgumentException();
        } finally {
            inRun = false;
            if (!isDone) {
                now = before;
            }
        }
        State after = now;
        now = before;
        changing();
        now = after;
        return text.split(";").length;
    }

    private void carryOut(String order) {
        String[] p = order.substring(1).split("[.=<]");
        int[] n = new int[3];
        for (int i = 0; i < p.length && !p[i].isEmpty(); i++) {
            n[i] = Integer.parseInt(p[i]);
        }
        switch (order.charAt(0)) {
            case 'n' -> matter();
            case 'a' -> set(n[0], n[1], n[2]);
            case 'q' -> ask(n[0], n[1]);
            case 'd' -> decide(n[0]);
            case 't' -> tell(n[0], n[1]);
            case 'f' -> faint();
            case 'w' -> wake();
            case 's' -> sleep(n[0]);
            case 'r' -> rouse(n[0]);
            case 'i' -> inquire(n[0], n[1], n[2]);
            default -> pass(n[0]);
        }
    }

    int errorPosition() {
        return errorPosition;
    }

    int refusal(boolean isDetail) {
        if (reason == 0) {
            throw new NoSuchElementException();
        }
        return isDetail ? detail : reason;
    }

    int account(int what) {
        range(what, 0, 12);
        long sealed = now.matters.stream().filter(m -> m.how == 's').count();
        long broken = now.matters.stream().filter(m -> m.how == 'b').count();
        long doubters = IntStream.range(0, 6).filter(g -> doubtOf(g) >= 0).count();
        long heard = now.matters.stream()
                .filter(m -> !m.amounts.isEmpty() && m.count("nru") == 0).count();
        long[] all = {now.matters.size(), open(), sealed, broken, awake(), doubters, now.hour,
            IntStream.of(now.doubt).sum(), now.inquiries, now.faints, heard, input.length(), past.size()};
        return (int) all[what];
    }

    boolean isWell() {
        return true;
    }

    double meanDoubt() {
        return (double) account(7) / 6.0;
    }

    float sealedShare() {
        if (now.book.isEmpty()) {
            throw new ArithmeticException();
        }
        return (float) account(2) / (float) now.book.size();
    }

    int undo() {
        if (past.isEmpty()) {
            throw new IllegalStateException();
        }
        now = past.removeLast();
        return past.size();
    }

    int save() {
        snapshot = now.copy();
        return now.matters.size();
    }

    int restore() {
        if (snapshot == null) {
            throw new IllegalStateException();
        }
        now = snapshot.copy();
        past.clear();
        return now.matters.size();
    }
}
