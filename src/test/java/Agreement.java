import java.util.ArrayList;
import java.util.List;
import java.util.Map;
import java.util.stream.IntStream;

/** What can be learned of an object in two ways: counts and sums agree with what they count and sum up. */
final class Agreement {
    private static final int GUILDS = 6;
    private static final int ANSWERS = 5;
    private static final int STATES = 3;

    private final Map<String, String> portrait;
    private final List<String> broken = new ArrayList<>();

    private Agreement(Map<String, String> portrait) {
        this.portrait = portrait;
    }

    /** What does not agree in a portrait; empty if all does. */
    static List<String> brokenIn(Map<String, String> portrait) {
        Agreement agreement = new Agreement(portrait);
        portrait.forEach((question, answer) -> agreement.check(question, !answer.startsWith(Player.UNDECLARED)));
        agreement.checkGuilds();
        agreement.checkRanks();
        agreement.checkMatters();
        return agreement.broken;
    }

    private void checkGuilds() {
        int doubters = 0;
        for (int g = 0; g < GUILDS; g++) {
            doubters += number("guildOf(" + g + ", 2)") >= 0 ? 1 : 0;
            String learning = "canLearn(" + g + ", ";
            check(learning, portrait.get(learning + "false)").equals(portrait.get(learning + "true)")));
        }
        int coins = sumOfGuilds(0);
        int hours = sumOfGuilds(3);
        check("coins", coins == number("coins(false)") && coins == number("coins(true)"));
        check("guilds awake", sumOfGuilds(1) == number("account(4)"));
        check("guilds in doubt", doubters == number("account(5)"));
        check("hours of doubt", hours == number("account(7)"));
        check("the mean", portrait.get("meanDoubt()").equals(String.valueOf(hours / 6.0)));
        check("that all is well", portrait.get("isWell()").equals("true"));
    }

    private int sumOfGuilds(int what) {
        return IntStream.range(0, GUILDS).map(g -> number("guildOf(" + g + ", " + what + ")")).sum();
    }

    private void checkRanks() {
        for (int place = 1; place < GUILDS; place++) {
            int guild = number("ranked(" + place + ")");
            int ahead = number("ranked(" + (place - 1) + ")");
            int more = number("guildOf(" + ahead + ", 3)") - number("guildOf(" + guild + ", 3)");
            check("the place " + place, more > 0 || more == 0 && ahead < guild);
        }
    }

    private void checkMatters() {
        int[] states = new int[STATES];
        int heard = 0;
        for (int m = 0; m < number("account(0)"); m++) {
            checkMatter(m);
            int state = number("matterOf(" + m + ", 0)");
            check("how " + m + " is", state >= 0 && state < STATES);
            states[Math.floorMod(state, STATES)]++;
            int guilds = number("matterOf(" + m + ", 1)");
            heard += guilds > 0 && guilds == number("matterOf(" + m + ", 5)") ? 1 : 0;
        }
        for (int state = 0; state < STATES; state++) {
            check("matters that are " + state, states[state] == number("account(" + (state + 1) + ")"));
        }
        check("matters heard of", heard == number("account(10)"));
    }

    private void checkMatter(int m) {
        int[] answers = new int[ANSWERS];
        int sum = 0;
        for (int g = 0; g < GUILDS; g++) {
            int answer = number("answer(" + m + ", " + g + ")");
            int amount = number("amount(" + m + ", " + g + ")");
            check("guilds of " + m, answer < ANSWERS && (amount == 0 ? answer == -1 : answer >= 0));
            sum += amount;
            if (answer >= 0 && answer < ANSWERS) {
                answers[answer]++;
            }
        }
        int guilds = IntStream.of(answers).sum();
        int[] due = {guilds, guilds - answers[0], answers[1], answers[2], answers[3] + answers[4], sum};
        for (int i = 0; i < due.length; i++) {
            String question = "matterOf(" + m + ", " + (i + 1) + ")";
            check(question, due[i] == number(question));
        }
        check("seals of " + m, answers[3] == 0 || answers[4] == 0);
    }

    private int number(String question) {
        String answer = portrait.getOrDefault(question, "");
        return answer.matches("-?\\d+") ? Integer.parseInt(answer) : Integer.MIN_VALUE;
    }

    private void check(String what, boolean holds) {
        if (!holds) {
            broken.add(what + ": does not agree");
        }
    }
}
